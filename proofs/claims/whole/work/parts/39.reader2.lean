/-! Reader: paths, entries, the whole tree. -/
noncomputable def pk (p : Prop) (x y : Int) : Int := @ite Int p (Classical.propDecidable p) x y
theorem pk_t {p : Prop} {x y : Int} (h : p) : pk p x y = x := @if_pos p (Classical.propDecidable p) h Int x y
theorem pk_f {p : Prop} {x y : Int} (h : ¬ p) : pk p x y = y := @if_neg p (Classical.propDecidable p) h Int x y
def p1R (l : List Int) (f : Int) : List Int := cps l (f + 345) (f + 345 + tx l (f + 345) 155)
def p2R (l : List Int) (f : Int) : List Int := cps l f (f + tx l f 100)
def pfR (l : List Int) (f : Int) : List Int := if 0 < (p1R l f).length then p1R l f ++ [47] else p1R l f
def ptR (l : List Int) (f : Int) : List Int := pfR l f ++ p2R l f
def ntR (P : List Int) : Int := if rat P (P.length - 1) = 47 then (P.length : Int) - 1 else P.length
def slsR (P : List Int) : Int := lsl P (ntR P).toNat
noncomputable def drR (st : CS) (t : Nat) (P : List Int) : Int := if slsR P = -1 then 0 else lkl st t P (slsR P) ((slsR P).toNat + 1) 0 0 0
def nokR (st : CS) (t : Nat) (P : List Int) : Prop := nmix P (slsR P + 1) (ntR P) ∧ ntR P - (slsR P + 1) ≤ 100 ∧ isK st t (drR st t P) 0 ∧ chl st t P (drR st t P) (slsR P + 1) (ntR P) = -1
def pokR (st : CS) (t : Nat) (l : List Int) (f k : Int) : Prop := (zrs l (f + 345 + tx l (f + 345) 155) (f + 345 + 155) ∧ zrs l (f + tx l f 100) (f + 100)) ∧ (rat (ptR l f) ((ptR l f).length - 1) = 47 ↔ k = 0) ∧ nokR st t (ptR l f)
def zbR (l : List Int) (b : Int) : Prop := b < (l.length : Int) / 512 ∧ zrs l (b * 512) (b * 512 + 512)
def ckR (l : List Int) (b : Int) : Prop := octv l (b * 512 + 148) 6 = sums l b 512 ∧ rat l (b * 512 + 155) = 32
noncomputable def lnR (l : List Int) (b : Int) : Int := octv l (b * 512 + 124) 11
noncomputable def feR (st : CS) (t : Nat) (l : List Int) (b : Int) : Int := pk ((l.length : Int) / 512 ≤ b) 1 (pk (zbR l b) 2 (pk (ckR l b) (pk (mrR l (b * 512)) (pk (numR l (b * 512)) (pk (kokR l (b * 512) (lnR l b)) (pk (pokR st t l (b * 512) (kndR l (b * 512))) (pk (tokR st t l (b * 512) (kndR l (b * 512))) (pk (30 ≤ (st.2.2.2.1 t) ∨ 2000 < lnR l b) 9 (fcR l b (lnR l b))) 8) 7) 6) 5) 4) 3))
def trAl (st : CS) (t : Nat) (L : List Int) (D k z : Int) : CS := uC (uR (bgn st (st.2.2.1 t ((st.2.2.2.1 t))) k D z) (2 * st.2.2.1 t ((st.2.2.2.1 t))) L) t ((st.2.2.2.1 t) + 1)
def tkN (st : CS) (t : Nat) (L : List Int) (D k z M O U : Int) : CS := uN (uN (uN (trAl st t L D k z) (st.2.2.1 t ((st.2.2.2.1 t))) 3 M) (st.2.2.1 t ((st.2.2.2.1 t))) 4 O) (st.2.2.1 t ((st.2.2.2.1 t))) 5 U
def tkS (st : CS) (t : Nat) (L B : List Int) (D k z M O U : Int) : CS := if k = 1 ∨ k = 2 then uR (tkN st t L D k z M O U) (2 * st.2.2.1 t ((st.2.2.2.1 t)) + 1) B else tkN st t L D k z M O U
noncomputable def bdR (l : List Int) (b : Int) : List Int := if kndR l (b * 512) = 2 then tgR l (b * 512) else cps l (b * 512 + 512) (b * 512 + 512 + lnR l b)
noncomputable def tkE (st : CS) (t : Nat) (l : List Int) (b : Int) : CS := tkS st t (cps (ptR l (b * 512)) (slsR (ptR l (b * 512)) + 1) (ntR (ptR l (b * 512)))) (bdR l b) (drR st t (ptR l (b * 512))) (kndR l (b * 512)) (flR st t l (b * 512) (kndR l (b * 512))) (octv l (b * 512 + 100) 7) (octv l (b * 512 + 108) 7) (octv l (b * 512 + 136) 11)
noncomputable def trF (t : Nat) (l : List Int) : Nat → CS → Int → Int × CS × Int
  | 0, s, b => (-1, s, b)
  | n + 1, s, b => @ite _ (zbR l b ∧ zbR l (b + 1)) (Classical.propDecidable _) (((s.2.2.2.1 t) : Int), s, b) (if feR s t l b = 0 then trF t l n (tkE s t l b) (b + (1 + (lnR l b + 511) / 512)) else (-(feR s t l b), s, b))
def clrS (st : CS) (t : Nat) : CS := uC (bgn st (st.2.2.1 t 0) 0 (-1) (-1)) t 1
theorem lsl_r (l : List Int) : ∀ n : Nat, -1 ≤ lsl l n ∧ lsl l n < n := by
  intro n
  induction n with
  | zero => exact ⟨Int.le_refl _, by show (-1 : Int) < 0; omega⟩
  | succ n ih =>
    unfold lsl
    split <;> omega
theorem addl_47 (l : List Int) : addl l 47 1 = l ++ [47] := by
  unfold addl
  refine li_ext (by rw [oF_len]; simp) (fun j hj => ?_)
  rw [oF_len] at hj
  rw [oF_get hj, getD_app]
  by_cases q : j < l.length
  · rw [if_pos q, if_pos q]
  · have hj2 : j < l.length + 1 := hj
    rw [if_neg q, if_neg q, show j - l.length = 0 by omega]
    decide
theorem octv_r {l : List Int} {f : Int} {n : Nat} (h : octv l f n ≠ -1) : 0 ≤ octv l f n ∧ octv l f n < 8 ^ n := by
  unfold octv at h ⊢
  by_cases q : octok l f n ∧ rat l (f + n) = 0
  · rw [@if_pos _ (Classical.propDecidable _) q]
    exact octs_r q.1
  · rw [@if_neg _ (Classical.propDecidable _) q] at h
    exact absurd rfl h
theorem ntR_r (P : List Int) : 0 ≤ ntR P ∧ ntR P ≤ P.length := by
  unfold ntR
  split
  · rename_i q
    have : (0 : Int) ≤ P.length - 1 := by
      refine Classical.byContradiction fun z => ?_
      rw [rat_out (fun w => z w.1)] at q
      omega
    omega
  · omega
section Reader2C
variable {K : KE} {h : AH} {g : Nat → Nat} {st : CS} {cb sb : Nat} {d t : Nat} {P T : List Int} {e0 e1 e2 e3 e4 e5 e6 e7 e8 e9 e10 : Int}
theorem tp127 (hW : WC K h g (rT st P T e0 e1 e2 e3 e4 e5 e6 e7 e8 e9 e10) cb sb) (ht : t < 2) (s v2 : Int) (hs : s = if rat P (P.length - 1) = 47 then 1 else 0) : Go (d + 3) yRd_takePath 127 [aR (g 532), aR (g (500 + t)), aI v2, aI s, none] [] h (RV (some (aI (pz (nokR st t P)))) (fun h2 => WC K h2 g (rT st P T e0 e1 e2 e3 e4 e5 e6 ((drR st t P)) ((slsR P + 1)) ((ntR P)) e10) cb sb)) := by
  have hlp : P.length ≤ 10240 := hW.len (r := 123) (by omega)
  have hnt := ntR_r P
  have hsl := lsl_r P (ntR P).toNat
  have hsd : slsR P = lsl P (ntR P).toNat := rfl
  have hk : ∀ h, WC K h g (rT st P T e0 e1 e2 e3 e4 e5 e6 e7 e8 ((ntR P)) e10) cb sb → Go (d + 3) yRd_takePath 154 [aR (g 532), aR (g (500 + t)), aI v2, aI s, none] [] h (RV (some (aI (pz (nokR st t P)))) (fun h2 => WC K h2 g (rT st P T e0 e1 e2 e3 e4 e5 e6 ((drR st t P)) ((slsR P + 1)) ((ntR P)) e10) cb sb)) := by
    intro h hW
    refine g_aload_n rfl rfl ?_
    refine g_get (ci := 1) (kk := 1) rfl rfl (rT_rd hW) hW.rdb rfl ?_
    refine g_aload_n rfl rfl ?_
    refine g_get (ci := 1) (kk := 12) rfl rfl (rT_rd hW) hW.rdb rfl ?_
    refine g_V (z := yRw_lastSlash) (e := 1) (A := [aI ((ntR P))]) (rest := []) (v := aI (slsR P)) (P := fun h2 => h2 = h) rfl rfl rfl rfl rfl rfl (by omega) (rT_r3 hW) (hW.rowb (by omega)) (c_lastSlash (by omega) hW (r := 123) (by omega) (ntR P) hnt.1 hnt.2) ?_
    intro hh9 he9
    rw [he9]
    clear he9 hh9
    refine g_istore (L' := [aR (g 532), aR (g (500 + t)), aI v2, aI s, aI (slsR P)]) rfl rfl ?_
    refine g_aload_n rfl rfl ?_
    refine g_iload rfl rfl ?_
    refine g_iconst (n := 1) rfl (by decide) ?_
    refine g_iadd rfl (by omega) ?_
    refine g_put (ci := 1) (kk := 11) (fs' := [aR (g 530), aR (g 123), aR (g 124), aI e0, aI e1, aL e2, aL e3, aL e4, aL e5, aI e6, aI e7, aI ((slsR P) + 1), aI ((ntR P)), aI e10]) rfl rfl (rT_rd hW) hW.rdb (Nat.le_of_ble_eq_true rfl) rfl (by decide) rfl ?_
    generalize hg_hh1 : hput h (g 532) (eO 1 [aR (g 530), aR (g 123), aR (g 124), aI e0, aI e1, aL e2, aL e3, aL e4, aL e5, aI e6, aI e7, aI ((slsR P) + 1), aI ((ntR P)), aI e10]) = hh1
    have hW := rT_set hW e0 e1 e2 e3 e4 e5 e6 e7 ((slsR P) + 1) ((ntR P)) e10
    rw [hg_hh1] at hW
    refine g_aload_n rfl rfl ?_
    refine g_iload rfl rfl ?_
    refine g_iconst (n := -1) rfl (by decide) ?_
    refine g_icmpne rfl rfl (fun c2 => ?_) (fun c2 => ?_)
    · skip
      have hdr : drR st t P = lkl st t P (slsR P) ((slsR P).toNat + 1) 0 0 0 := by unfold drR; rw [if_neg c2]
      refine g_aload_n rfl rfl ?_
      refine g_aload_n rfl rfl ?_
      refine g_get (ci := 1) (kk := 1) rfl rfl (rT_rd hW) hW.rdb rfl ?_
      refine g_iload rfl rfl ?_
      refine g_V (z := yTr_lookUp) (e := 1) (A := [aI (slsR P), aR (g 123)]) (rest := [aR (g 532)]) (v := aI (drR st t P)) (P := fun h2 => h2 = hh1) rfl rfl rfl rfl rfl rfl (by omega) (rT_tree hW ht) (hW.treeb ht) (hdr ▸ r_lookUp (l := P) (by omega) hW ht (r := 123) (by omega) rfl (slsR P) (by omega) (by omega)) ?_
      intro hh9 he9
      rw [he9]
      clear he9 hh9
      refine g_put (ci := 1) (kk := 10) (fs' := [aR (g 530), aR (g 123), aR (g 124), aI e0, aI e1, aL e2, aL e3, aL e4, aL e5, aI e6, aI (drR st t P), aI ((slsR P) + 1), aI ((ntR P)), aI e10]) rfl rfl (rT_rd hW) hW.rdb (Nat.le_of_ble_eq_true rfl) rfl (by decide) rfl ?_
      generalize hg_hh3 : hput hh1 (g 532) (eO 1 [aR (g 530), aR (g 123), aR (g 124), aI e0, aI e1, aL e2, aL e3, aL e4, aL e5, aI e6, aI (drR st t P), aI ((slsR P) + 1), aI ((ntR P)), aI e10]) = hh3
      have hW := rT_set hW e0 e1 e2 e3 e4 e5 e6 (drR st t P) ((slsR P) + 1) ((ntR P)) e10
      rw [hg_hh3] at hW
      refine g_aload_n rfl rfl ?_
      refine g_get (ci := 1) (kk := 1) rfl rfl (rT_rd hW) hW.rdb rfl ?_
      refine g_aload_n rfl rfl ?_
      refine g_get (ci := 1) (kk := 11) rfl rfl (rT_rd hW) hW.rdb rfl ?_
      refine g_aload_n rfl rfl ?_
      refine g_get (ci := 1) (kk := 12) rfl rfl (rT_rd hW) hW.rdb rfl ?_
      refine g_V (z := yRw_isNameOfAnyLength) (e := 1) (A := [aI ((ntR P)), aI ((slsR P) + 1)]) (rest := []) (v := aI (pz (nmix P (slsR P + 1) (ntR P)))) (P := fun h2 => h2 = hh3) rfl rfl rfl rfl rfl rfl (by omega) (rT_r3 hW) (hW.rowb (by omega)) (c_isName (by omega) hW (r := 123) (by omega) (slsR P + 1) (ntR P) (by omega) hnt.2 (by omega)) ?_
      intro hh9 he9
      rw [he9]
      clear he9 hh9
      refine g_ifeq rfl rfl (fun c4 => ?_) (fun c4 => ?_)
      · skip
        have n1 := c4
        refine g_iconst (n := 0) rfl (by decide) ?_
        exact r_z rfl rfl (by decide) (pz_f (fun q => by first | exact n4 q.2.2.2 | exact pz_eq n3 q.2.2.1 | (have := q.2.1; omega) | exact pz_eq n1 q.1)).symm hW
      · skip
        have n1 := c4
        refine g_aload_n rfl rfl ?_
        refine g_get (ci := 1) (kk := 12) rfl rfl (rT_rd hW) hW.rdb rfl ?_
        refine g_aload_n rfl rfl ?_
        refine g_get (ci := 1) (kk := 11) rfl rfl (rT_rd hW) hW.rdb rfl ?_
        refine g_isub rfl (by omega) ?_
        refine g_bipush (n := 100) rfl (by decide) ?_
        refine g_icmpgt rfl rfl (fun c5 => ?_) (fun c5 => ?_)
        · skip
          have n2 := c5
          refine g_iconst (n := 0) rfl (by decide) ?_
          exact r_z rfl rfl (by decide) (pz_f (fun q => by first | exact n4 q.2.2.2 | exact pz_eq n3 q.2.2.1 | (have := q.2.1; omega) | exact pz_eq n1 q.1)).symm hW
        · skip
          have n2 := c5
          refine g_aload_n rfl rfl ?_
          refine g_aload_n rfl rfl ?_
          refine g_get (ci := 1) (kk := 10) rfl rfl (rT_rd hW) hW.rdb rfl ?_
          refine g_iconst (n := 0) rfl (by decide) ?_
          refine g_V (z := yTr_isOfKind) (e := 1) (A := [aI 0, aI (drR st t P)]) (rest := []) (v := aI (pz (isK st t (drR st t P) 0))) (P := fun h2 => h2 = hh3) rfl rfl rfl rfl rfl rfl (by omega) (rT_tree hW ht) (hW.treeb ht) (c_isOfKind hW ht _ _) ?_
          intro hh9 he9
          rw [he9]
          clear he9 hh9
          refine g_ifeq rfl rfl (fun c6 => ?_) (fun c6 => ?_)
          · skip
            have n3 := c6
            refine g_iconst (n := 0) rfl (by decide) ?_
            exact r_z rfl rfl (by decide) (pz_f (fun q => by first | exact n4 q.2.2.2 | exact pz_eq n3 q.2.2.1 | (have := q.2.1; omega) | exact pz_eq n1 q.1)).symm hW
          · skip
            have n3 := c6
            refine g_aload_n rfl rfl ?_
            refine g_aload_n rfl rfl ?_
            refine g_get (ci := 1) (kk := 10) rfl rfl (rT_rd hW) hW.rdb rfl ?_
            refine g_aload_n rfl rfl ?_
            refine g_get (ci := 1) (kk := 1) rfl rfl (rT_rd hW) hW.rdb rfl ?_
            refine g_aload_n rfl rfl ?_
            refine g_get (ci := 1) (kk := 11) rfl rfl (rT_rd hW) hW.rdb rfl ?_
            refine g_aload_n rfl rfl ?_
            refine g_get (ci := 1) (kk := 12) rfl rfl (rT_rd hW) hW.rdb rfl ?_
            refine g_V (z := yTr_childNamed) (e := 1) (A := [aI ((ntR P)), aI ((slsR P) + 1), aR (g 123), aI (drR st t P)]) (rest := []) (v := aI (chl st t P (drR st t P) (slsR P + 1) (ntR P))) (P := fun h2 => h2 = hh3) rfl rfl rfl rfl rfl rfl (by omega) (rT_tree hW ht) (hW.treeb ht) (r_childNamed (by omega) hW ht (drR st t P) (slsR P + 1) (ntR P) (by unfold r32; omega) (by unfold r32; omega) (fun _ => by unfold r32; omega)) ?_
            intro hh9 he9
            rw [he9]
            clear he9 hh9
            refine g_iconst (n := -1) rfl (by decide) ?_
            refine g_icmpne rfl rfl (fun c7 => ?_) (fun c7 => ?_)
            · skip
              have n4 := c7
              refine g_iconst (n := 0) rfl (by decide) ?_
              exact r_z rfl rfl (by decide) (pz_f (fun q => by first | exact n4 q.2.2.2 | exact pz_eq n3 q.2.2.1 | (have := q.2.1; omega) | exact pz_eq n1 q.1)).symm hW
            · skip
              have n4 := c7
              refine g_iconst (n := 1) rfl (by decide) ?_
              refine g_goto rfl rfl ?_
              exact r_z rfl rfl (by decide) (pz_t ⟨pz_ne n1, n2, pz_ne n3, n4⟩).symm hW
    · skip
      have hdr : drR st t P = 0 := by unfold drR; rw [if_pos c2]
      refine g_iconst (n := 0) rfl (by decide) ?_
      refine g_goto rfl rfl ?_
      rw [← hdr]
      refine g_put (ci := 1) (kk := 10) (fs' := [aR (g 530), aR (g 123), aR (g 124), aI e0, aI e1, aL e2, aL e3, aL e4, aL e5, aI e6, aI (drR st t P), aI ((slsR P) + 1), aI ((ntR P)), aI e10]) rfl rfl (rT_rd hW) hW.rdb (Nat.le_of_ble_eq_true rfl) rfl (by decide) rfl ?_
      generalize hg_hh8 : hput hh1 (g 532) (eO 1 [aR (g 530), aR (g 123), aR (g 124), aI e0, aI e1, aL e2, aL e3, aL e4, aL e5, aI e6, aI (drR st t P), aI ((slsR P) + 1), aI ((ntR P)), aI e10]) = hh8
      have hW := rT_set hW e0 e1 e2 e3 e4 e5 e6 (drR st t P) ((slsR P) + 1) ((ntR P)) e10
      rw [hg_hh8] at hW
      refine g_aload_n rfl rfl ?_
      refine g_get (ci := 1) (kk := 1) rfl rfl (rT_rd hW) hW.rdb rfl ?_
      refine g_aload_n rfl rfl ?_
      refine g_get (ci := 1) (kk := 11) rfl rfl (rT_rd hW) hW.rdb rfl ?_
      refine g_aload_n rfl rfl ?_
      refine g_get (ci := 1) (kk := 12) rfl rfl (rT_rd hW) hW.rdb rfl ?_
      refine g_V (z := yRw_isNameOfAnyLength) (e := 1) (A := [aI ((ntR P)), aI ((slsR P) + 1)]) (rest := []) (v := aI (pz (nmix P (slsR P + 1) (ntR P)))) (P := fun h2 => h2 = hh8) rfl rfl rfl rfl rfl rfl (by omega) (rT_r3 hW) (hW.rowb (by omega)) (c_isName (by omega) hW (r := 123) (by omega) (slsR P + 1) (ntR P) (by omega) hnt.2 (by omega)) ?_
      intro hh9 he9
      rw [he9]
      clear he9 hh9
      refine g_ifeq rfl rfl (fun c9 => ?_) (fun c9 => ?_)
      · skip
        have n1 := c9
        refine g_iconst (n := 0) rfl (by decide) ?_
        exact r_z rfl rfl (by decide) (pz_f (fun q => by first | exact n4 q.2.2.2 | exact pz_eq n3 q.2.2.1 | (have := q.2.1; omega) | exact pz_eq n1 q.1)).symm hW
      · skip
        have n1 := c9
        refine g_aload_n rfl rfl ?_
        refine g_get (ci := 1) (kk := 12) rfl rfl (rT_rd hW) hW.rdb rfl ?_
        refine g_aload_n rfl rfl ?_
        refine g_get (ci := 1) (kk := 11) rfl rfl (rT_rd hW) hW.rdb rfl ?_
        refine g_isub rfl (by omega) ?_
        refine g_bipush (n := 100) rfl (by decide) ?_
        refine g_icmpgt rfl rfl (fun c10 => ?_) (fun c10 => ?_)
        · skip
          have n2 := c10
          refine g_iconst (n := 0) rfl (by decide) ?_
          exact r_z rfl rfl (by decide) (pz_f (fun q => by first | exact n4 q.2.2.2 | exact pz_eq n3 q.2.2.1 | (have := q.2.1; omega) | exact pz_eq n1 q.1)).symm hW
        · skip
          have n2 := c10
          refine g_aload_n rfl rfl ?_
          refine g_aload_n rfl rfl ?_
          refine g_get (ci := 1) (kk := 10) rfl rfl (rT_rd hW) hW.rdb rfl ?_
          refine g_iconst (n := 0) rfl (by decide) ?_
          refine g_V (z := yTr_isOfKind) (e := 1) (A := [aI 0, aI (drR st t P)]) (rest := []) (v := aI (pz (isK st t (drR st t P) 0))) (P := fun h2 => h2 = hh8) rfl rfl rfl rfl rfl rfl (by omega) (rT_tree hW ht) (hW.treeb ht) (c_isOfKind hW ht _ _) ?_
          intro hh9 he9
          rw [he9]
          clear he9 hh9
          refine g_ifeq rfl rfl (fun c11 => ?_) (fun c11 => ?_)
          · skip
            have n3 := c11
            refine g_iconst (n := 0) rfl (by decide) ?_
            exact r_z rfl rfl (by decide) (pz_f (fun q => by first | exact n4 q.2.2.2 | exact pz_eq n3 q.2.2.1 | (have := q.2.1; omega) | exact pz_eq n1 q.1)).symm hW
          · skip
            have n3 := c11
            refine g_aload_n rfl rfl ?_
            refine g_aload_n rfl rfl ?_
            refine g_get (ci := 1) (kk := 10) rfl rfl (rT_rd hW) hW.rdb rfl ?_
            refine g_aload_n rfl rfl ?_
            refine g_get (ci := 1) (kk := 1) rfl rfl (rT_rd hW) hW.rdb rfl ?_
            refine g_aload_n rfl rfl ?_
            refine g_get (ci := 1) (kk := 11) rfl rfl (rT_rd hW) hW.rdb rfl ?_
            refine g_aload_n rfl rfl ?_
            refine g_get (ci := 1) (kk := 12) rfl rfl (rT_rd hW) hW.rdb rfl ?_
            refine g_V (z := yTr_childNamed) (e := 1) (A := [aI ((ntR P)), aI ((slsR P) + 1), aR (g 123), aI (drR st t P)]) (rest := []) (v := aI (chl st t P (drR st t P) (slsR P + 1) (ntR P))) (P := fun h2 => h2 = hh8) rfl rfl rfl rfl rfl rfl (by omega) (rT_tree hW ht) (hW.treeb ht) (r_childNamed (by omega) hW ht (drR st t P) (slsR P + 1) (ntR P) (by unfold r32; omega) (by unfold r32; omega) (fun _ => by unfold r32; omega)) ?_
            intro hh9 he9
            rw [he9]
            clear he9 hh9
            refine g_iconst (n := -1) rfl (by decide) ?_
            refine g_icmpne rfl rfl (fun c12 => ?_) (fun c12 => ?_)
            · skip
              have n4 := c12
              refine g_iconst (n := 0) rfl (by decide) ?_
              exact r_z rfl rfl (by decide) (pz_f (fun q => by first | exact n4 q.2.2.2 | exact pz_eq n3 q.2.2.1 | (have := q.2.1; omega) | exact pz_eq n1 q.1)).symm hW
            · skip
              have n4 := c12
              refine g_iconst (n := 1) rfl (by decide) ?_
              refine g_goto rfl rfl ?_
              exact r_z rfl rfl (by decide) (pz_t ⟨pz_ne n1, n2, pz_ne n3, n4⟩).symm hW
  refine g_aload_n rfl rfl ?_
  refine g_iload_n rfl rfl ?_
  refine g_ifeq rfl rfl (fun c1 => ?_) (fun c1 => ?_)
  · skip
    have hz : ntR P = P.length := by unfold ntR; rw [if_neg (fun q => by rw [if_pos q] at hs; omega)]
    refine g_aload_n rfl rfl ?_
    refine g_get (ci := 1) (kk := 1) rfl rfl (rT_rd hW) hW.rdb rfl ?_
    refine g_get (ci := 2) (kk := 1) rfl rfl (rT_r3 hW) (hW.rowb (by omega)) rfl ?_
    rw [← hz]
    refine g_put (ci := 1) (kk := 12) (fs' := [aR (g 530), aR (g 123), aR (g 124), aI e0, aI e1, aL e2, aL e3, aL e4, aL e5, aI e6, aI e7, aI e8, aI (ntR P), aI e10]) rfl rfl (rT_rd hW) hW.rdb (Nat.le_of_ble_eq_true rfl) rfl (by decide) rfl ?_
    generalize hg_hh2 : hput h (g 532) (eO 1 [aR (g 530), aR (g 123), aR (g 124), aI e0, aI e1, aL e2, aL e3, aL e4, aL e5, aI e6, aI e7, aI e8, aI (ntR P), aI e10]) = hh2
    have hW := rT_set hW e0 e1 e2 e3 e4 e5 e6 e7 e8 (ntR P) e10
    rw [hg_hh2] at hW
    exact hk _ hW
  · skip
    have hz : ntR P = (P.length : Int) - 1 := by unfold ntR; rw [if_pos (Classical.byContradiction fun q => by rw [if_neg q] at hs; omega)]
    refine g_aload_n rfl rfl ?_
    refine g_get (ci := 1) (kk := 1) rfl rfl (rT_rd hW) hW.rdb rfl ?_
    refine g_get (ci := 2) (kk := 1) rfl rfl (rT_r3 hW) (hW.rowb (by omega)) rfl ?_
    refine g_iconst (n := 1) rfl (by decide) ?_
    refine g_isub rfl (by omega) ?_
    refine g_goto rfl rfl ?_
    rw [← hz]
    refine g_put (ci := 1) (kk := 12) (fs' := [aR (g 530), aR (g 123), aR (g 124), aI e0, aI e1, aL e2, aL e3, aL e4, aL e5, aI e6, aI e7, aI e8, aI (ntR P), aI e10]) rfl rfl (rT_rd hW) hW.rdb (Nat.le_of_ble_eq_true rfl) rfl (by decide) rfl ?_
    generalize hg_hh3 : hput h (g 532) (eO 1 [aR (g 530), aR (g 123), aR (g 124), aI e0, aI e1, aL e2, aL e3, aL e4, aL e5, aI e6, aI e7, aI e8, aI (ntR P), aI e10]) = hh3
    have hW := rT_set hW e0 e1 e2 e3 e4 e5 e6 e7 e8 (ntR P) e10
    rw [hg_hh3] at hW
    exact hk _ hW
theorem tp49 (hW : WC K h g (rT st P T e0 e1 e2 e3 e4 e5 e6 e7 e8 e9 e10) cb sb) (ht : t < 2) (hf : 0 ≤ e1) (hf2 : e1 + 512 ≤ (st.1 121).length) (hP : P = pfR (st.1 121) e1) : Go (d + 3) yRd_takePath 49 [aR (g 532), aR (g (500 + t)), aI (pz (zrs (st.1 121) (e1 + 345 + tx (st.1 121) (e1 + 345) 155) (e1 + 345 + 155))), none, none] [] h (RV (some (aI (pz (pokR st t (st.1 121) e1 e6)))) (fun h2 => ∃ P' D x y, WC K h2 g (rT st P' T e0 e1 e2 e3 e4 e5 e6 D x y e10) cb sb ∧ (pokR st t (st.1 121) e1 e6 → P' = ptR (st.1 121) e1 ∧ D = drR st t (ptR (st.1 121) e1) ∧ x = slsR (ptR (st.1 121) e1) + 1 ∧ y = ntR (ptR (st.1 121) e1)))) := by
  have hl9 : (st.1 121).length ≤ 10240 := hW.len (r := 121) (by omega)
  have hpl : P.length ≤ 156 := by
    rw [hP]
    unfold pfR
    have := tx_le (st.1 121) 155 (e1 + 345)
    have e : (p1R (st.1 121) e1).length ≤ 155 := by unfold p1R; rw [cps_len]; omega
    split
    · rw [List.length_append]; simp; omega
    · omega
  have hpt : P ++ p2R (st.1 121) e1 = ptR (st.1 121) e1 := by rw [hP]; rfl
  have hpl2 : (ptR (st.1 121) e1).length ≤ 256 := by
    rw [← hpt, List.length_append]
    have := tx_le (st.1 121) 100 e1
    have e : (p2R (st.1 121) e1).length ≤ 100 := by unfold p2R; rw [cps_len]; omega
    omega
  refine g_aload_n rfl rfl ?_
  refine g_aload_n rfl rfl ?_
  refine g_get (ci := 1) (kk := 1) rfl rfl (rT_rd hW) hW.rdb rfl ?_
  refine g_aload_n rfl rfl ?_
  refine g_get (ci := 1) (kk := 4) rfl rfl (rT_rd hW) hW.rdb rfl ?_
  refine g_iconst (n := 0) rfl (by decide) ?_
  refine g_iadd rfl (by omega) ?_
  refine g_bipush (n := 100) rfl (by decide) ?_
  refine g_V (z := yRd_addText) (e := 1) (A := [aI 100, aI (e1 + 0), aR (g 123)]) (rest := []) (v := aI (pz (zrs (st.1 121) (e1 + 0 + tx (st.1 121) (e1 + 0) 100) (e1 + 0 + 100))))  rfl rfl rfl rfl rfl rfl (by omega) (rT_rd hW) hW.rdb (c_addText (by omega) hW (r := 123) (by omega) (by omega) (e1 + 0) 100 (by omega) (show _ ≤ ((st.1 121).length : Int) by omega) (show P.length + 100 ≤ 10240 by omega)) ?_
  intro hh1 hW
  rw [show e1 + 0 = e1 by omega] at *
  have hW : WC K hh1 g (rT st ((ptR (st.1 121) e1)) T e0 e1 e2 e3 e4 e5 e6 e7 e8 e9 e10) cb sb := by
    rw [rT_R3] at hW
    rw [← hpt]
    exact hW
  refine g_ifeq rfl rfl (fun c2 => ?_) (fun c2 => ?_)
  · skip
    have y1 := c2
    refine g_iconst (n := 0) rfl (by decide) ?_
    refine g_istore_n (L' := [aR (g 532), aR (g (500 + t)), aI 0, none, none]) rfl rfl ?_
    refine g_aload_n rfl rfl ?_
    refine g_get (ci := 1) (kk := 1) rfl rfl (rT_rd hW) hW.rdb rfl ?_
    refine g_aload_n rfl rfl ?_
    refine g_get (ci := 1) (kk := 1) rfl rfl (rT_rd hW) hW.rdb rfl ?_
    refine g_get (ci := 2) (kk := 1) rfl rfl (rT_r3 hW) (hW.rowb (by omega)) rfl ?_
    refine g_iconst (n := 1) rfl (by decide) ?_
    refine g_isub rfl (by omega) ?_
    refine g_V (z := yRw_at) (e := 1) (A := [aI ((((ptR (st.1 121) e1).length : Int)) - 1)]) (rest := []) (v := aI (rat (ptR (st.1 121) e1) (((ptR (st.1 121) e1).length : Int) - 1))) (P := fun h2 => h2 = hh1) rfl rfl rfl rfl rfl rfl (by omega) (rT_r3 hW) (hW.rowb (by omega)) (c_at hW (r := 123) (by omega) _) ?_
    intro hh9 he9
    rw [he9]
    clear he9 hh9
    refine g_bipush (n := 47) rfl (by decide) ?_
    refine g_icmpne rfl rfl (fun c3 => ?_) (fun c3 => ?_)
    · skip
      have y3 := c3
      refine g_iconst (n := 0) rfl (by decide) ?_
      refine g_istore_n (L' := [aR (g 532), aR (g (500 + t)), aI 0, aI 0, none]) rfl rfl ?_
      refine g_iload_n rfl rfl ?_
      refine g_ifeq rfl rfl (fun c => ?_) (fun c => absurd c (by decide))
      refine g_iconst (n := 0) rfl (by decide) ?_
      have ny : ¬ pokR st t (st.1 121) e1 e6 := fun q => by
        first | exact pz_eq y1 q.1.2 | exact pz_eq y2 q.1.1 | (have q2 := q.2.1; omega)
      exact r_z rfl rfl (by decide) (pz_f ny).symm ⟨_, _, _, _, hW, fun q => absurd q ny⟩
    · skip
      have y3 := c3
      refine g_iconst (n := 1) rfl (by decide) ?_
      refine g_goto rfl rfl ?_
      refine g_istore_n (L' := [aR (g 532), aR (g (500 + t)), aI 0, aI 1, none]) rfl rfl ?_
      refine g_iload_n rfl rfl ?_
      refine g_ifeq rfl rfl (fun c => ?_) (fun c => absurd c (by decide))
      refine g_iconst (n := 0) rfl (by decide) ?_
      have ny : ¬ pokR st t (st.1 121) e1 e6 := fun q => by
        first | exact pz_eq y1 q.1.2 | exact pz_eq y2 q.1.1 | (have q2 := q.2.1; omega)
      exact r_z rfl rfl (by decide) (pz_f ny).symm ⟨_, _, _, _, hW, fun q => absurd q ny⟩
  · skip
    have y1 := c2
    refine g_iload_n rfl rfl ?_
    refine g_ifeq rfl rfl (fun c6 => ?_) (fun c6 => ?_)
    · skip
      have y2 := c6
      refine g_iconst (n := 0) rfl (by decide) ?_
      refine g_istore_n (L' := [aR (g 532), aR (g (500 + t)), aI 0, none, none]) rfl rfl ?_
      refine g_aload_n rfl rfl ?_
      refine g_get (ci := 1) (kk := 1) rfl rfl (rT_rd hW) hW.rdb rfl ?_
      refine g_aload_n rfl rfl ?_
      refine g_get (ci := 1) (kk := 1) rfl rfl (rT_rd hW) hW.rdb rfl ?_
      refine g_get (ci := 2) (kk := 1) rfl rfl (rT_r3 hW) (hW.rowb (by omega)) rfl ?_
      refine g_iconst (n := 1) rfl (by decide) ?_
      refine g_isub rfl (by omega) ?_
      refine g_V (z := yRw_at) (e := 1) (A := [aI ((((ptR (st.1 121) e1).length : Int)) - 1)]) (rest := []) (v := aI (rat (ptR (st.1 121) e1) (((ptR (st.1 121) e1).length : Int) - 1))) (P := fun h2 => h2 = hh1) rfl rfl rfl rfl rfl rfl (by omega) (rT_r3 hW) (hW.rowb (by omega)) (c_at hW (r := 123) (by omega) _) ?_
      intro hh9 he9
      rw [he9]
      clear he9 hh9
      refine g_bipush (n := 47) rfl (by decide) ?_
      refine g_icmpne rfl rfl (fun c7 => ?_) (fun c7 => ?_)
      · skip
        have y3 := c7
        refine g_iconst (n := 0) rfl (by decide) ?_
        refine g_istore_n (L' := [aR (g 532), aR (g (500 + t)), aI 0, aI 0, none]) rfl rfl ?_
        refine g_iload_n rfl rfl ?_
        refine g_ifeq rfl rfl (fun c => ?_) (fun c => absurd c (by decide))
        refine g_iconst (n := 0) rfl (by decide) ?_
        have ny : ¬ pokR st t (st.1 121) e1 e6 := fun q => by
          first | exact pz_eq y1 q.1.2 | exact pz_eq y2 q.1.1 | (have q2 := q.2.1; omega)
        exact r_z rfl rfl (by decide) (pz_f ny).symm ⟨_, _, _, _, hW, fun q => absurd q ny⟩
      · skip
        have y3 := c7
        refine g_iconst (n := 1) rfl (by decide) ?_
        refine g_goto rfl rfl ?_
        refine g_istore_n (L' := [aR (g 532), aR (g (500 + t)), aI 0, aI 1, none]) rfl rfl ?_
        refine g_iload_n rfl rfl ?_
        refine g_ifeq rfl rfl (fun c => ?_) (fun c => absurd c (by decide))
        refine g_iconst (n := 0) rfl (by decide) ?_
        have ny : ¬ pokR st t (st.1 121) e1 e6 := fun q => by
          first | exact pz_eq y1 q.1.2 | exact pz_eq y2 q.1.1 | (have q2 := q.2.1; omega)
        exact r_z rfl rfl (by decide) (pz_f ny).symm ⟨_, _, _, _, hW, fun q => absurd q ny⟩
    · skip
      have y2 := c6
      refine g_iconst (n := 1) rfl (by decide) ?_
      refine g_goto rfl rfl ?_
      refine g_istore_n (L' := [aR (g 532), aR (g (500 + t)), aI 1, none, none]) rfl rfl ?_
      refine g_aload_n rfl rfl ?_
      refine g_get (ci := 1) (kk := 1) rfl rfl (rT_rd hW) hW.rdb rfl ?_
      refine g_aload_n rfl rfl ?_
      refine g_get (ci := 1) (kk := 1) rfl rfl (rT_rd hW) hW.rdb rfl ?_
      refine g_get (ci := 2) (kk := 1) rfl rfl (rT_r3 hW) (hW.rowb (by omega)) rfl ?_
      refine g_iconst (n := 1) rfl (by decide) ?_
      refine g_isub rfl (by omega) ?_
      refine g_V (z := yRw_at) (e := 1) (A := [aI ((((ptR (st.1 121) e1).length : Int)) - 1)]) (rest := []) (v := aI (rat (ptR (st.1 121) e1) (((ptR (st.1 121) e1).length : Int) - 1))) (P := fun h2 => h2 = hh1) rfl rfl rfl rfl rfl rfl (by omega) (rT_r3 hW) (hW.rowb (by omega)) (c_at hW (r := 123) (by omega) _) ?_
      intro hh9 he9
      rw [he9]
      clear he9 hh9
      refine g_bipush (n := 47) rfl (by decide) ?_
      refine g_icmpne rfl rfl (fun c10 => ?_) (fun c10 => ?_)
      · skip
        have y3 := c10
        refine g_iconst (n := 0) rfl (by decide) ?_
        refine g_istore_n (L' := [aR (g 532), aR (g (500 + t)), aI 1, aI 0, none]) rfl rfl ?_
        refine g_iload_n rfl rfl ?_
        refine g_ifeq rfl rfl (fun c => absurd c (by decide)) (fun c => ?_)
        refine g_iload_n rfl rfl ?_
        refine g_aload_n rfl rfl ?_
        refine g_get (ci := 1) (kk := 9) rfl rfl (rT_rd hW) hW.rdb rfl ?_
        refine g_ifne rfl rfl (fun c12 => ?_) (fun c12 => ?_)
        · skip
          have y4 := c12
          refine g_iconst (n := 0) rfl (by decide) ?_
          refine g_icmpeq rfl rfl (fun c => ?_) (fun c => absurd c (by decide))
          have hsv : (0 : Int) = if rat (ptR (st.1 121) e1) (((ptR (st.1 121) e1).length : Int) - 1) = 47 then 1 else 0 := by
            first | rw [if_pos y3] | rw [if_neg y3]
          have h9 := tp127 (d := d) hW ht 0 1 hsv
          have e9 : pz (pokR st t (st.1 121) e1 e6) = pz (nokR st t (ptR (st.1 121) e1)) := pz_congr ⟨fun q => q.2.2, fun q => ⟨⟨pz_ne y2, pz_ne y1⟩, by constructor <;> intro _ <;> omega, q⟩⟩
          rw [e9]
          exact h9.mono fun o h2 hh => ⟨hh.1, _, _, _, _, hh.2, fun _ => ⟨rfl, rfl, rfl, rfl⟩⟩
        · skip
          have y4 := c12
          refine g_iconst (n := 1) rfl (by decide) ?_
          refine g_goto rfl rfl ?_
          refine g_icmpeq rfl rfl (fun c => absurd c (by decide)) (fun c => ?_)
          refine g_iconst (n := 0) rfl (by decide) ?_
          have ny : ¬ pokR st t (st.1 121) e1 e6 := fun q => by
            first | exact pz_eq y1 q.1.2 | exact pz_eq y2 q.1.1 | (have q2 := q.2.1; omega)
          exact r_z rfl rfl (by decide) (pz_f ny).symm ⟨_, _, _, _, hW, fun q => absurd q ny⟩
      · skip
        have y3 := c10
        refine g_iconst (n := 1) rfl (by decide) ?_
        refine g_goto rfl rfl ?_
        refine g_istore_n (L' := [aR (g 532), aR (g (500 + t)), aI 1, aI 1, none]) rfl rfl ?_
        refine g_iload_n rfl rfl ?_
        refine g_ifeq rfl rfl (fun c => absurd c (by decide)) (fun c => ?_)
        refine g_iload_n rfl rfl ?_
        refine g_aload_n rfl rfl ?_
        refine g_get (ci := 1) (kk := 9) rfl rfl (rT_rd hW) hW.rdb rfl ?_
        refine g_ifne rfl rfl (fun c16 => ?_) (fun c16 => ?_)
        · skip
          have y4 := c16
          refine g_iconst (n := 0) rfl (by decide) ?_
          refine g_icmpeq rfl rfl (fun c => absurd c (by decide)) (fun c => ?_)
          refine g_iconst (n := 0) rfl (by decide) ?_
          have ny : ¬ pokR st t (st.1 121) e1 e6 := fun q => by
            first | exact pz_eq y1 q.1.2 | exact pz_eq y2 q.1.1 | (have q2 := q.2.1; omega)
          exact r_z rfl rfl (by decide) (pz_f ny).symm ⟨_, _, _, _, hW, fun q => absurd q ny⟩
        · skip
          have y4 := c16
          refine g_iconst (n := 1) rfl (by decide) ?_
          refine g_goto rfl rfl ?_
          refine g_icmpeq rfl rfl (fun c => ?_) (fun c => absurd c (by decide))
          have hsv : (1 : Int) = if rat (ptR (st.1 121) e1) (((ptR (st.1 121) e1).length : Int) - 1) = 47 then 1 else 0 := by
            first | rw [if_pos y3] | rw [if_neg y3]
          have h9 := tp127 (d := d) hW ht 1 1 hsv
          have e9 : pz (pokR st t (st.1 121) e1 e6) = pz (nokR st t (ptR (st.1 121) e1)) := pz_congr ⟨fun q => q.2.2, fun q => ⟨⟨pz_ne y2, pz_ne y1⟩, by constructor <;> intro _ <;> omega, q⟩⟩
          rw [e9]
          exact h9.mono fun o h2 hh => ⟨hh.1, _, _, _, _, hh.2, fun _ => ⟨rfl, rfl, rfl, rfl⟩⟩
theorem c_takePath (hd3 : 3 ≤ d) (hW : WC K h g (rT st P T e0 e1 e2 e3 e4 e5 e6 e7 e8 e9 e10) cb sb) (ht : t < 2) (hf : 0 ≤ e1) (hf2 : e1 + 512 ≤ (st.1 121).length) : Cal d yRd_takePath [aR (g 532), aR (g (500 + t))] h (RV (some (aI (pz (pokR st t (st.1 121) e1 e6)))) (fun h2 => ∃ P' D x y, WC K h2 g (rT st P' T e0 e1 e2 e3 e4 e5 e6 D x y e10) cb sb ∧ (pokR st t (st.1 121) e1 e6 → P' = ptR (st.1 121) e1 ∧ D = drR st t (ptR (st.1 121) e1) ∧ x = slsR (ptR (st.1 121) e1) + 1 ∧ y = ntR (ptR (st.1 121) e1)))) := by
  obtain ⟨d, rfl⟩ : ∃ e, d = e + 3 := ⟨d - 3, by omega⟩
  have hl9 : (st.1 121).length ≤ 10240 := hW.len (r := 121) (by omega)
  have hpl : (p1R (st.1 121) e1).length ≤ 155 := by
    have := tx_le (st.1 121) 155 (e1 + 345)
    unfold p1R
    rw [cps_len]
    omega
  show Go _ _ 0 [aR (g 532), aR (g (500 + t)), none, none, none] [] _ _
  refine g_aload_n rfl rfl ?_
  refine g_get (ci := 1) (kk := 1) rfl rfl (rT_rd hW) hW.rdb rfl ?_
  refine g_iconst (n := 0) rfl (by decide) ?_
  refine g_Vn (z := yRw_resize) (e := 1) (A := [aI 0]) (rest := [])  rfl rfl rfl rfl rfl rfl (by omega) (rT_r3 hW) (hW.rowb (by omega)) (c_resize (by omega) hW (r := 123) (by omega) _) ?_
  intro hh1 hW
  have hW : WC K hh1 g (rT st ([]) T e0 e1 e2 e3 e4 e5 e6 e7 e8 e9 e10) cb sb := by
    rw [rsz_0, rT_R3] at hW
    exact hW
  refine g_aload_n rfl rfl ?_
  refine g_aload_n rfl rfl ?_
  refine g_get (ci := 1) (kk := 1) rfl rfl (rT_rd hW) hW.rdb rfl ?_
  refine g_aload_n rfl rfl ?_
  refine g_get (ci := 1) (kk := 4) rfl rfl (rT_rd hW) hW.rdb rfl ?_
  refine g_sipush (n := 345) rfl (by decide) ?_
  refine g_iadd rfl (by omega) ?_
  refine g_sipush (n := 155) rfl (by decide) ?_
  refine g_V (z := yRd_addText) (e := 1) (A := [aI 155, aI (e1 + 345), aR (g 123)]) (rest := []) (v := aI (pz (zrs (st.1 121) (e1 + 345 + tx (st.1 121) (e1 + 345) 155) (e1 + 345 + 155))))  rfl rfl rfl rfl rfl rfl (by omega) (rT_rd hW) hW.rdb (c_addText (by omega) hW (r := 123) (by omega) (by omega) (e1 + 345) 155 (by omega) (show _ ≤ ((st.1 121).length : Int) by omega) (by show 0 + 155 ≤ 10240; omega)) ?_
  intro hh2 hW
  have hW : WC K hh2 g (rT st ((p1R (st.1 121) e1)) T e0 e1 e2 e3 e4 e5 e6 e7 e8 e9 e10) cb sb := by
    rw [rT_R3] at hW
    exact hW
  refine g_istore_n (L' := [aR (g 532), aR (g (500 + t)), aI (pz (zrs (st.1 121) (e1 + 345 + tx (st.1 121) (e1 + 345) 155) (e1 + 345 + 155))), none, none]) rfl rfl ?_
  refine g_aload_n rfl rfl ?_
  refine g_get (ci := 1) (kk := 1) rfl rfl (rT_rd hW) hW.rdb rfl ?_
  refine g_get (ci := 2) (kk := 1) rfl rfl (rT_r3 hW) (hW.rowb (by omega)) rfl ?_
  refine g_ifle rfl rfl (fun c3 => ?_) (fun c3 => ?_)
  · skip
    have y0 := c3
    exact tp49 (d := d) hW ht hf hf2 (by unfold pfR; first | rw [if_pos (by omega)] | rw [if_neg (by omega)])
  · skip
    have y0 := c3
    refine g_aload_n rfl rfl ?_
    refine g_get (ci := 1) (kk := 1) rfl rfl (rT_rd hW) hW.rdb rfl ?_
    refine g_ldc2 (v := 47) rfl rfl ?_
    refine g_iconst (n := 1) rfl (by decide) ?_
    refine g_Vn (z := yRw_addLetters) (e := 1) (A := [aI 1, aL 47]) (rest := [])  rfl rfl rfl rfl rfl rfl (by omega) (rT_r3 hW) (hW.rowb (by omega)) (c_addLetters (by omega) hW (r := 123) (by omega) 47 1 (by omega) (by omega) (by show ((p1R (st.1 121) e1).length : Int) + 1 ≤ 10240; omega)) ?_
    intro hh4 hW
    have hW : WC K hh4 g (rT st (((p1R (st.1 121) e1) ++ [47])) T e0 e1 e2 e3 e4 e5 e6 e7 e8 e9 e10) cb sb := by
      rw [rT_R3, addl_47] at hW
      exact hW
    exact tp49 (d := d) hW ht hf hf2 (by unfold pfR; first | rw [if_pos (by omega)] | rw [if_neg (by omega)])
theorem r_zb (hd2 : 2 ≤ d) (hW : WC K h g (rT st P T e0 e1 e2 e3 e4 e5 e6 e7 e8 e9 e10) cb sb) (b : Int) (h0 : 0 ≤ b) (h1 : b ≤ 100) : Cal d yTp_isBlockOfZeros [aR (g 530), aI b] h (RV (some (aI (pz (zbR (st.1 121) b)))) (fun h2 => h2 = h)) := by
  have k := c_isBlockOfZeros hd2 hW b h0 h1
  exact k
theorem r_ck (hd2 : 2 ≤ d) (hW : WC K h g (rT st P T e0 e1 e2 e3 e4 e5 e6 e7 e8 e9 e10) cb sb) (b : Int) (h0 : 0 ≤ b) (h1 : b ≤ 100) : Cal d yTp_hasCheck [aR (g 530), aI b] h (RV (some (aI (pz (ckR (st.1 121) b)))) (fun h2 => h2 = h)) := by
  have k := c_hasCheck hd2 hW b h0 h1
  exact k
theorem c_faultOfEntry (hd4 : 4 ≤ d) (hK : KOK K) (hW : WC K h g (rT st P T e0 e1 e2 e3 e4 e5 e6 e7 e8 e9 e10) cb sb) (ht : t < 2) (h0 : 0 ≤ e0) (h1 : e0 ≤ 100) : Cal d yRd_faultOfEntry [aR (g 532), aR (g (500 + t))] h (RV (some (aI (feR st t (st.1 121) e0))) (fun h2 => ∃ P' T' f1 f2 f3 f4 f5 f6 f7 f8 f9 f10, WC K h2 g (rT st P' T' e0 f1 f2 f3 f4 f5 f6 f7 f8 f9 f10) cb sb ∧ (feR st t (st.1 121) e0 = 0 → f1 = e0 * 512 ∧ f2 = octv (st.1 121) (e0 * 512 + 100) 7 ∧ f3 = octv (st.1 121) (e0 * 512 + 108) 7 ∧ f4 = octv (st.1 121) (e0 * 512 + 136) 11 ∧ f5 = lnR (st.1 121) e0 ∧ f6 = kndR (st.1 121) (e0 * 512) ∧ P' = ptR (st.1 121) (e0 * 512) ∧ T' = tgR (st.1 121) (e0 * 512) ∧ f7 = drR st t (ptR (st.1 121) (e0 * 512)) ∧ f8 = slsR (ptR (st.1 121) (e0 * 512)) + 1 ∧ f9 = ntR (ptR (st.1 121) (e0 * 512)) ∧ f10 = flR st t (st.1 121) (e0 * 512) (kndR (st.1 121) (e0 * 512))))) := by
  have hl9 : (st.1 121).length ≤ 10240 := hW.len (r := 121) (by omega)
  show Go _ _ 0 [aR (g 532), aR (g (500 + t))] [] _ _
  refine g_aload_n rfl rfl ?_
  refine g_aload_n rfl rfl ?_
  refine g_get (ci := 1) (kk := 3) rfl rfl (rT_rd hW) hW.rdb rfl ?_
  refine g_sipush (n := 512) rfl (by decide) ?_
  refine g_imul rfl (by omega) ?_
  refine g_put (ci := 1) (kk := 4) (fs' := [aR (g 530), aR (g 123), aR (g 124), aI e0, aI (e0 * 512), aL e2, aL e3, aL e4, aL e5, aI e6, aI e7, aI e8, aI e9, aI e10]) rfl rfl (rT_rd hW) hW.rdb (Nat.le_of_ble_eq_true rfl) rfl (by decide) rfl ?_
  generalize hg_hh1 : hput h (g 532) (eO 1 [aR (g 530), aR (g 123), aR (g 124), aI e0, aI (e0 * 512), aL e2, aL e3, aL e4, aL e5, aI e6, aI e7, aI e8, aI e9, aI e10]) = hh1
  have hW := rT_set hW e0 (e0 * 512) e2 e3 e4 e5 e6 e7 e8 e9 e10
  rw [hg_hh1] at hW
  refine g_aload_n rfl rfl ?_
  refine g_get (ci := 1) (kk := 3) rfl rfl (rT_rd hW) hW.rdb rfl ?_
  refine g_aload_n rfl rfl ?_
  refine g_get (ci := 1) (kk := 0) rfl rfl (rT_rd hW) hW.rdb rfl ?_
  refine g_V (z := yTp_wholeBlocks) (e := 1) (A := []) (rest := [aI e0]) (v := aI (((st.1 121).length : Int) / 512)) (P := fun h2 => h2 = hh1) rfl rfl rfl rfl rfl rfl (by omega) hW.tape hW.tapeb (r_wholeBlocks hW) ?_
  intro hh9 he9
  rw [he9]
  clear he9 hh9
  refine g_icmplt rfl rfl (fun c2 => ?_) (fun c2 => ?_)
  · skip
    have z1 : ¬ ((st.1 121).length : Int) / 512 ≤ e0 := by omega
    refine g_aload_n rfl rfl ?_
    refine g_get (ci := 1) (kk := 0) rfl rfl (rT_rd hW) hW.rdb rfl ?_
    refine g_aload_n rfl rfl ?_
    refine g_get (ci := 1) (kk := 3) rfl rfl (rT_rd hW) hW.rdb rfl ?_
    refine g_V (z := yTp_isBlockOfZeros) (e := 1) (A := [aI e0]) (rest := []) (v := aI (pz (zbR (st.1 121) e0))) (P := fun h2 => h2 = hh1) rfl rfl rfl rfl rfl rfl (by omega) hW.tape hW.tapeb (r_zb (by omega) hW e0 h0 h1) ?_
    intro hh9 he9
    rw [he9]
    clear he9 hh9
    refine g_ifeq rfl rfl (fun c3 => ?_) (fun c3 => ?_)
    · skip
      have z2 := pz_eq c3
      refine g_aload_n rfl rfl ?_
      refine g_get (ci := 1) (kk := 0) rfl rfl (rT_rd hW) hW.rdb rfl ?_
      refine g_aload_n rfl rfl ?_
      refine g_get (ci := 1) (kk := 3) rfl rfl (rT_rd hW) hW.rdb rfl ?_
      refine g_V (z := yTp_hasCheck) (e := 1) (A := [aI e0]) (rest := []) (v := aI (pz (ckR (st.1 121) e0))) (P := fun h2 => h2 = hh1) rfl rfl rfl rfl rfl rfl (by omega) hW.tape hW.tapeb (r_ck (by omega) hW e0 h0 h1) ?_
      intro hh9 he9
      rw [he9]
      clear he9 hh9
      refine g_ifne rfl rfl (fun c4 => ?_) (fun c4 => ?_)
      · skip
        have z3 := pz_ne c4
        refine g_aload_n rfl rfl ?_
        refine g_V (z := yRd_isMarked) (e := 1) (A := []) (rest := []) (v := aI (pz (mrR (st.1 121) (e0 * 512)))) (P := fun h2 => h2 = hh1) rfl rfl rfl rfl rfl rfl (by omega) (rT_rd hW) hW.rdb (c_isMarked (by omega) hK hW (by omega) (by omega)) ?_
        intro hh9 he9
        rw [he9]
        clear he9 hh9
        refine g_ifne rfl rfl (fun c5 => ?_) (fun c5 => ?_)
        · skip
          have z4 := pz_ne c5
          refine g_aload_n rfl rfl ?_
          refine g_V (z := yRd_takeNumbers) (e := 1) (A := []) (rest := []) (v := aI (pz (numR (st.1 121) (e0 * 512))))  rfl rfl rfl rfl rfl rfl (by omega) (rT_rd hW) hW.rdb (c_takeNumbers (by omega) hW (by omega) (by omega)) ?_
          intro hh6 hW
          have hW : WC K hh6 g (rT st P T e0 ((e0 * 512)) ((octv (st.1 121) (e0 * 512 + 100) 7)) ((octv (st.1 121) (e0 * 512 + 108) 7)) ((octv (st.1 121) (e0 * 512 + 136) 11)) ((lnR (st.1 121) e0)) e6 e7 e8 e9 e10) cb sb := hW
          refine g_ifne rfl rfl (fun c7 => ?_) (fun c7 => ?_)
          · skip
            have z5 := pz_ne c7
            refine g_aload_n rfl rfl ?_
            refine g_V (z := yRd_takeKind) (e := 1) (A := []) (rest := []) (v := aI (pz (kokR (st.1 121) (e0 * 512) (lnR (st.1 121) e0))))  rfl rfl rfl rfl rfl rfl (by omega) (rT_rd hW) hW.rdb (c_takeKind (by omega) hW (by omega) (by omega)) ?_
            intro hh8 hW
            refine g_ifne rfl rfl (fun c9 => ?_) (fun c9 => ?_)
            · skip
              have z6 := pz_ne c9
              refine g_aload_n rfl rfl ?_
              refine g_aload_n rfl rfl ?_
              refine g_V (z := yRd_takePath) (e := 1) (A := [aR (g (500 + t))]) (rest := []) (v := aI (pz (pokR st t (st.1 121) (e0 * 512) (kndR (st.1 121) (e0 * 512)))))  rfl rfl rfl rfl rfl rfl (by omega) (rT_rd hW) hW.rdb (c_takePath (by omega) hW ht (by omega) (by omega)) ?_
              intro hh10 hq
              obtain ⟨P', D, x, y, hW, hpo⟩ := hq
              refine g_ifne rfl rfl (fun c11 => ?_) (fun c11 => ?_)
              · skip
                have z7 := pz_ne c11
                refine g_aload_n rfl rfl ?_
                refine g_aload_n rfl rfl ?_
                refine g_V (z := yRd_takeTarget) (e := 1) (A := [aR (g (500 + t))]) (rest := []) (v := aI (pz (tokR st t (st.1 121) (e0 * 512) (kndR (st.1 121) (e0 * 512)))))  rfl rfl rfl rfl rfl rfl (by omega) (rT_rd hW) hW.rdb (c_takeTarget (by omega) hW ht (by omega) (by omega)) ?_
                intro hh12 hq
                obtain ⟨z, hW, hto⟩ := hq
                refine g_ifne rfl rfl (fun c13 => ?_) (fun c13 => ?_)
                · skip
                  have z8 := pz_ne c13
                  refine g_aload_n rfl rfl ?_
                  refine g_get (ci := 4) (kk := 1) rfl rfl (rT_tree hW ht) (hW.treeb ht) rfl ?_
                  refine g_bipush (n := 30) rfl (by decide) ?_
                  refine g_icmpge rfl rfl (fun c14 => ?_) (fun c14 => ?_)
                  · skip
                    refine g_bipush (n := 9) rfl (by decide) ?_
                    have z9 : 30 ≤ (st.2.2.2.1 t) ∨ 2000 < lnR (st.1 121) e0 := by omega
                    have e9 : feR st t (st.1 121) e0 = 9 := by unfold feR; rw [pk_f z1, pk_f z2, pk_t z3, pk_t z4, pk_t z5, pk_t z6, pk_t z7, pk_t z8, pk_t z9]
                    exact r_i rfl rfl e9.symm ⟨_, _, _, _, _, _, _, _, _, _, _, _, hW, fun q => by omega⟩
                  · skip
                    refine g_aload_n rfl rfl ?_
                    refine g_get (ci := 1) (kk := 8) rfl rfl (rT_rd hW) hW.rdb rfl ?_
                    refine g_ldc2 (v := 2000) rfl rfl ?_
                    refine g_lcmp rfl ?_
                    refine g_ifle rfl rfl (fun c15 => ?_) (fun c15 => ?_)
                    · skip
                      have c15 := lc_le c15
                      refine g_aload_n rfl rfl ?_
                      refine g_aload_n rfl rfl ?_
                      refine g_get (ci := 1) (kk := 8) rfl rfl (rT_rd hW) hW.rdb rfl ?_
                      have z9 : ¬ (30 ≤ (st.2.2.2.1 t) ∨ 2000 < lnR (st.1 121) e0) := by omega
                      have hln : 0 ≤ lnR (st.1 121) e0 := (octv_r z5.2.2.2.1).1
                      have e9 : feR st t (st.1 121) e0 = fcR (st.1 121) e0 (lnR (st.1 121) e0) := by unfold feR; rw [pk_f z1, pk_f z2, pk_t z3, pk_t z4, pk_t z5, pk_t z6, pk_t z7, pk_t z8, pk_f z9]
                      refine g_l2i (v := lnR (st.1 121) e0) rfl (a32_id (by omega) (by omega)) ?_
                      refine g_V (z := yRd_faultOfContents) (e := 1) (A := [aI (lnR (st.1 121) e0)]) (rest := []) (v := aI (fcR (st.1 121) e0 (lnR (st.1 121) e0))) (P := fun h2 => h2 = hh12) rfl rfl rfl rfl rfl rfl (by omega) (rT_rd hW) hW.rdb (c_faultOfContents (by omega) hW _ hln (by omega) h0 h1 rfl) ?_
                      intro hh9 he9
                      rw [he9]
                      clear he9 hh9
                      exact r_i rfl rfl e9.symm ⟨_, _, _, _, _, _, _, _, _, _, _, _, hW, fun _ => ⟨rfl, rfl, rfl, rfl, rfl, rfl, (hpo z7).1, rfl, (hpo z7).2.1, (hpo z7).2.2.1, (hpo z7).2.2.2, hto z8⟩⟩
                    · skip
                      have c15 := lc_gt c15
                      refine g_bipush (n := 9) rfl (by decide) ?_
                      have z9 : 30 ≤ (st.2.2.2.1 t) ∨ 2000 < lnR (st.1 121) e0 := by omega
                      have e9 : feR st t (st.1 121) e0 = 9 := by unfold feR; rw [pk_f z1, pk_f z2, pk_t z3, pk_t z4, pk_t z5, pk_t z6, pk_t z7, pk_t z8, pk_t z9]
                      exact r_i rfl rfl e9.symm ⟨_, _, _, _, _, _, _, _, _, _, _, _, hW, fun q => by omega⟩
                · skip
                  have z8 := pz_eq c13
                  refine g_bipush (n := 8) rfl (by decide) ?_
                  have e9 : feR st t (st.1 121) e0 = 8 := by unfold feR; rw [pk_f z1, pk_f z2, pk_t z3, pk_t z4, pk_t z5, pk_t z6, pk_t z7, pk_f z8]
                  exact r_i rfl rfl e9.symm ⟨_, _, _, _, _, _, _, _, _, _, _, _, hW, fun q => by omega⟩
              · skip
                have z7 := pz_eq c11
                refine g_bipush (n := 7) rfl (by decide) ?_
                have e9 : feR st t (st.1 121) e0 = 7 := by unfold feR; rw [pk_f z1, pk_f z2, pk_t z3, pk_t z4, pk_t z5, pk_t z6, pk_f z7]
                exact r_i rfl rfl e9.symm ⟨_, _, _, _, _, _, _, _, _, _, _, _, hW, fun q => by omega⟩
            · skip
              have z6 := pz_eq c9
              refine g_bipush (n := 6) rfl (by decide) ?_
              have e9 : feR st t (st.1 121) e0 = 6 := by unfold feR; rw [pk_f z1, pk_f z2, pk_t z3, pk_t z4, pk_t z5, pk_f z6]
              exact r_i rfl rfl e9.symm ⟨_, _, _, _, _, _, _, _, _, _, _, _, hW, fun q => by omega⟩
          · skip
            have z5 := pz_eq c7
            refine g_iconst (n := 5) rfl (by decide) ?_
            have e9 : feR st t (st.1 121) e0 = 5 := by unfold feR; rw [pk_f z1, pk_f z2, pk_t z3, pk_t z4, pk_f z5]
            exact r_i rfl rfl e9.symm ⟨_, _, _, _, _, _, _, _, _, _, _, _, hW, fun q => by omega⟩
        · skip
          have z4 := pz_eq c5
          refine g_iconst (n := 4) rfl (by decide) ?_
          have e9 : feR st t (st.1 121) e0 = 4 := by unfold feR; rw [pk_f z1, pk_f z2, pk_t z3, pk_f z4]
          exact r_i rfl rfl e9.symm ⟨_, _, _, _, _, _, _, _, _, _, _, _, hW, fun q => by omega⟩
      · skip
        have z3 := pz_eq c4
        refine g_iconst (n := 3) rfl (by decide) ?_
        have e9 : feR st t (st.1 121) e0 = 3 := by unfold feR; rw [pk_f z1, pk_f z2, pk_f z3]
        exact r_i rfl rfl e9.symm ⟨_, _, _, _, _, _, _, _, _, _, _, _, hW, fun q => by omega⟩
    · skip
      have z2 := pz_ne c3
      refine g_iconst (n := 2) rfl (by decide) ?_
      have e9 : feR st t (st.1 121) e0 = 2 := by unfold feR; rw [pk_f z1, pk_t z2]
      exact r_i rfl rfl e9.symm ⟨_, _, _, _, _, _, _, _, _, _, _, _, hW, fun q => by omega⟩
  · skip
    have z1 : ((st.1 121).length : Int) / 512 ≤ e0 := by omega
    refine g_iconst (n := 1) rfl (by decide) ?_
    have e9 : feR st t (st.1 121) e0 = 1 := by unfold feR; rw [pk_t z1]
    exact r_i rfl rfl e9.symm ⟨_, _, _, _, _, _, _, _, _, _, _, _, hW, fun q => by omega⟩
end Reader2C
