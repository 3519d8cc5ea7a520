/-! Reader: an entry becomes a node; the whole tree. -/
section Reader3C
variable {K : KE} {h : AH} {g : Nat → Nat} {st : CS} {cb sb : Nat} {d t : Nat} {P T : List Int} {e0 e1 e2 e3 e4 e5 e6 e7 e8 e9 e10 : Int}
theorem rT_uR {r : Nat} {L : List Int} (h3 : r ≠ 123) (h4 : r ≠ 124) : uR (rT st P T e0 e1 e2 e3 e4 e5 e6 e7 e8 e9 e10) r L = (rT (uR st r L) P T e0 e1 e2 e3 e4 e5 e6 e7 e8 e9 e10) := by
  refine Prod.ext ?_ rfl
  funext q
  show va_up (fun r => if r = 123 then P else if r = 124 then T else st.1 r) r L q = if q = 123 then P else if q = 124 then T else va_up st.1 r L q
  unfold va_up
  by_cases h : q = r
  · subst h
    rw [if_pos rfl, if_neg h3, if_neg h4, if_pos rfl]
  · rw [if_neg h, if_neg h]
theorem rT_bgn {j : Nat} {k D z : Int} (hj : j < 60) : bgn (rT st P T e0 e1 e2 e3 e4 e5 e6 e7 e8 e9 e10) j k D z = (rT (bgn st j k D z) P T e0 e1 e2 e3 e4 e5 e6 e7 e8 e9 e10) := by
  unfold bgn
  rw [rT_uR (by omega) (by omega), rT_uR (by omega) (by omega)]
  rfl
theorem rT_add (hp : (st.2.2.1 t ((st.2.2.2.1 t))) < 60) (D k z x y : Int) : trAdd (rT st P T e0 e1 e2 e3 e4 e5 e6 e7 e8 e9 e10) t 123 D k z x y = (rT (trAl st t (cps P x y) D k z) P T e0 e1 e2 e3 e4 e5 e6 e7 e8 e9 e10) := by
  show uC (uR (bgn (rT st P T e0 e1 e2 e3 e4 e5 e6 e7 e8 e9 e10) (st.2.2.1 t ((st.2.2.2.1 t))) k D z) (2 * (st.2.2.1 t ((st.2.2.2.1 t)))) (cps P x y)) t ((st.2.2.2.1 t) + 1) = _
  rw [rT_bgn hp, rT_uR (by omega) (by omega)]
  rfl
theorem c_takeEntry (hd4 : 4 ≤ d) (hW : WC K h g (rT st P T e0 e1 e2 e3 e4 e5 e6 e7 e8 e9 e10) cb sb) (ht : t < 2) (hc : (st.2.2.2.1 t) < 30) (h0 : 0 ≤ e0) (h1 : e0 ≤ 100) (hx : 0 ≤ e8) (hxy : e8 ≤ e9) (hy : e9 ≤ P.length) (hM : r32 e2) (hO : r32 e3) (hU : r32 e4) (hN0 : 0 ≤ e5) (hN : e5 ≤ 2000) (hf : 0 ≤ e1) (hf2 : e6 = 1 → e1 + 512 + e5 ≤ (st.1 121).length) : Cal d yRd_takeEntry [aR (g 532), aR (g (500 + t))] h (RV none (fun h2 => WC K h2 g (rT (tkS st t (cps P e8 e9) (if e6 = 2 then cps T 0 (T.length : Int) else cps (st.1 121) (e1 + 512) (e1 + 512 + e5)) e7 e6 e10 e2 e3 e4) P T ((e0 + (1 + (e5 + 511) / 512))) e1 e2 e3 e4 e5 e6 e7 e8 e9 e10) cb sb)) := by
  have hpm : (st.2.2.1 t ((st.2.2.2.1 t))) < 60 := hW.pm ht hc
  have hpl : P.length ≤ 10240 := hW.len (r := 123) (by omega)
  have htl : T.length ≤ 10240 := hW.len (r := 124) (by omega)
  have hl9 : (st.1 121).length ≤ 10240 := hW.len (r := 121) (by omega)
  show Go _ _ 0 [aR (g 532), aR (g (500 + t)), none, none] [] _ _
  refine g_aload_n rfl rfl ?_
  refine g_aload_n rfl rfl ?_
  refine g_get (ci := 1) (kk := 10) rfl rfl (rT_rd hW) hW.rdb rfl ?_
  refine g_aload_n rfl rfl ?_
  refine g_get (ci := 1) (kk := 9) rfl rfl (rT_rd hW) hW.rdb rfl ?_
  refine g_aload_n rfl rfl ?_
  refine g_get (ci := 1) (kk := 13) rfl rfl (rT_rd hW) hW.rdb rfl ?_
  refine g_aload_n rfl rfl ?_
  refine g_get (ci := 1) (kk := 1) rfl rfl (rT_rd hW) hW.rdb rfl ?_
  refine g_aload_n rfl rfl ?_
  refine g_get (ci := 1) (kk := 11) rfl rfl (rT_rd hW) hW.rdb rfl ?_
  refine g_aload_n rfl rfl ?_
  refine g_get (ci := 1) (kk := 12) rfl rfl (rT_rd hW) hW.rdb rfl ?_
  refine g_V (z := yTr_add) (e := 1) (A := [aI e9, aI e8, aR (g 123), aI e10, aI e6, aI e7]) (rest := []) (v := aI (((st.2.2.2.1 t) : Int)))  rfl rfl rfl rfl rfl rfl (by omega) (rT_tree hW ht) (hW.treeb ht) (c_add (by omega) hW ht (r := 123) (by omega) hc e7 e6 e10 e8 e9 hx hxy hy) ?_
  intro hh1 hW
  rw [rT_add hpm] at hW
  have hhs : hs (trAl st t (cps P e8 e9) e7 e6 e10) t ((st.2.2.2.1 t) : Int) := ⟨by omega, by show (((st.2.2.2.1 t) : Nat) : Int) < ((va_up st.2.2.2.1 t ((st.2.2.2.1 t) + 1) t : Nat) : Int); rw [show va_up st.2.2.2.1 t ((st.2.2.2.1 t) + 1) t = (st.2.2.2.1 t) + 1 from by simp [va_up]]; omega⟩
  refine g_istore_n (L' := [aR (g 532), aR (g (500 + t)), aI (((st.2.2.2.1 t) : Int)), none]) rfl rfl ?_
  refine g_aload_n rfl rfl ?_
  refine g_iload_n rfl rfl ?_
  refine g_V (z := yTr_has) (e := 1) (A := [aI (((st.2.2.2.1 t) : Int))]) (rest := []) (v := aI (pz (hs (trAl st t (cps P e8 e9) e7 e6 e10) t ((st.2.2.2.1 t) : Int)))) (P := fun h2 => h2 = hh1) rfl rfl rfl rfl rfl rfl (by omega) (rT_tree hW ht) (hW.treeb ht) (c_has hW ht _) ?_
  intro hh9 he9
  rw [he9]
  clear he9 hh9
  refine g_ifeq rfl rfl (fun c => absurd c (by rw [pz_t hhs]; decide)) (fun c2 => ?_)
  refine g_aload_n rfl rfl ?_
  refine g_get (ci := 4) (kk := 0) rfl rfl (rT_tree hW ht) (hW.treeb ht) rfl ?_
  refine g_iload_n rfl rfl ?_
  refine g_aald (b := g (400 + (st.2.2.1 t ((st.2.2.2.1 t))))) rfl (rT_arr hW ht) (by decide) (hW.arrb ht) (by omega) (nar_t (by omega)) ?_
  refine g_astore_n (L' := [aR (g 532), aR (g (500 + t)), aI (((st.2.2.2.1 t) : Int)), aR (g (400 + (st.2.2.1 t ((st.2.2.2.1 t)))))]) rfl rfl ?_
  refine g_aload_n rfl rfl ?_
  refine g_aload_n rfl rfl ?_
  refine g_get (ci := 1) (kk := 5) rfl rfl (rT_rd hW) hW.rdb rfl ?_
  refine g_l2i (v := e2) rfl (a32_id hM.1 hM.2) ?_
  refine g_put (ci := 0) (kk := 5) (fs' := [aR (g (2 * (st.2.2.1 t ((st.2.2.2.1 t))))), aR (g (2 * (st.2.2.1 t ((st.2.2.2.1 t))) + 1)), aI ((trAl st t (cps P e8 e9) e7 e6 e10).2.1 (st.2.2.1 t ((st.2.2.2.1 t))) 0), aI ((trAl st t (cps P e8 e9) e7 e6 e10).2.1 (st.2.2.1 t ((st.2.2.2.1 t))) 1), aI ((trAl st t (cps P e8 e9) e7 e6 e10).2.1 (st.2.2.1 t ((st.2.2.2.1 t))) 2), aI e2, aI ((trAl st t (cps P e8 e9) e7 e6 e10).2.1 (st.2.2.1 t ((st.2.2.2.1 t))) 4), aI ((trAl st t (cps P e8 e9) e7 e6 e10).2.1 (st.2.2.1 t ((st.2.2.2.1 t))) 5)]) rfl rfl (hW.node hpm) (hW.nodeb hpm) (Nat.le_of_ble_eq_true rfl) rfl (by decide) rfl ?_
  generalize hg_hh3 : hput hh1 (g (400 + (st.2.2.1 t ((st.2.2.2.1 t))))) (eO 0 [aR (g (2 * (st.2.2.1 t ((st.2.2.2.1 t))))), aR (g (2 * (st.2.2.1 t ((st.2.2.2.1 t))) + 1)), aI ((trAl st t (cps P e8 e9) e7 e6 e10).2.1 (st.2.2.1 t ((st.2.2.2.1 t))) 0), aI ((trAl st t (cps P e8 e9) e7 e6 e10).2.1 (st.2.2.1 t ((st.2.2.2.1 t))) 1), aI ((trAl st t (cps P e8 e9) e7 e6 e10).2.1 (st.2.2.1 t ((st.2.2.2.1 t))) 2), aI e2, aI ((trAl st t (cps P e8 e9) e7 e6 e10).2.1 (st.2.2.1 t ((st.2.2.2.1 t))) 4), aI ((trAl st t (cps P e8 e9) e7 e6 e10).2.1 (st.2.2.1 t ((st.2.2.2.1 t))) 5)]) = hh3
  have hW : WC K hh3 g (rT (uN (trAl st t (cps P e8 e9) e7 e6 e10) (st.2.2.1 t ((st.2.2.2.1 t))) 3 e2) P T e0 e1 e2 e3 e4 e5 e6 e7 e8 e9 e10) cb sb := by
    rw [← hg_hh3]
    exact hW.setN hpm (by simp [uN, va_up, rT])
  refine g_aload_n rfl rfl ?_
  refine g_aload_n rfl rfl ?_
  refine g_get (ci := 1) (kk := 6) rfl rfl (rT_rd hW) hW.rdb rfl ?_
  refine g_l2i (v := e3) rfl (a32_id hO.1 hO.2) ?_
  refine g_put (ci := 0) (kk := 6) (fs' := [aR (g (2 * (st.2.2.1 t ((st.2.2.2.1 t))))), aR (g (2 * (st.2.2.1 t ((st.2.2.2.1 t))) + 1)), aI ((uN (trAl st t (cps P e8 e9) e7 e6 e10) (st.2.2.1 t ((st.2.2.2.1 t))) 3 e2).2.1 (st.2.2.1 t ((st.2.2.2.1 t))) 0), aI ((uN (trAl st t (cps P e8 e9) e7 e6 e10) (st.2.2.1 t ((st.2.2.2.1 t))) 3 e2).2.1 (st.2.2.1 t ((st.2.2.2.1 t))) 1), aI ((uN (trAl st t (cps P e8 e9) e7 e6 e10) (st.2.2.1 t ((st.2.2.2.1 t))) 3 e2).2.1 (st.2.2.1 t ((st.2.2.2.1 t))) 2), aI ((uN (trAl st t (cps P e8 e9) e7 e6 e10) (st.2.2.1 t ((st.2.2.2.1 t))) 3 e2).2.1 (st.2.2.1 t ((st.2.2.2.1 t))) 3), aI e3, aI ((uN (trAl st t (cps P e8 e9) e7 e6 e10) (st.2.2.1 t ((st.2.2.2.1 t))) 3 e2).2.1 (st.2.2.1 t ((st.2.2.2.1 t))) 5)]) rfl rfl (hW.node hpm) (hW.nodeb hpm) (Nat.le_of_ble_eq_true rfl) rfl (by decide) rfl ?_
  generalize hg_hh4 : hput hh3 (g (400 + (st.2.2.1 t ((st.2.2.2.1 t))))) (eO 0 [aR (g (2 * (st.2.2.1 t ((st.2.2.2.1 t))))), aR (g (2 * (st.2.2.1 t ((st.2.2.2.1 t))) + 1)), aI ((uN (trAl st t (cps P e8 e9) e7 e6 e10) (st.2.2.1 t ((st.2.2.2.1 t))) 3 e2).2.1 (st.2.2.1 t ((st.2.2.2.1 t))) 0), aI ((uN (trAl st t (cps P e8 e9) e7 e6 e10) (st.2.2.1 t ((st.2.2.2.1 t))) 3 e2).2.1 (st.2.2.1 t ((st.2.2.2.1 t))) 1), aI ((uN (trAl st t (cps P e8 e9) e7 e6 e10) (st.2.2.1 t ((st.2.2.2.1 t))) 3 e2).2.1 (st.2.2.1 t ((st.2.2.2.1 t))) 2), aI ((uN (trAl st t (cps P e8 e9) e7 e6 e10) (st.2.2.1 t ((st.2.2.2.1 t))) 3 e2).2.1 (st.2.2.1 t ((st.2.2.2.1 t))) 3), aI e3, aI ((uN (trAl st t (cps P e8 e9) e7 e6 e10) (st.2.2.1 t ((st.2.2.2.1 t))) 3 e2).2.1 (st.2.2.1 t ((st.2.2.2.1 t))) 5)]) = hh4
  have hW : WC K hh4 g (rT (uN (uN (trAl st t (cps P e8 e9) e7 e6 e10) (st.2.2.1 t ((st.2.2.2.1 t))) 3 e2) (st.2.2.1 t ((st.2.2.2.1 t))) 4 e3) P T e0 e1 e2 e3 e4 e5 e6 e7 e8 e9 e10) cb sb := by
    rw [← hg_hh4]
    exact hW.setN hpm (by simp [uN, va_up, rT])
  refine g_aload_n rfl rfl ?_
  refine g_aload_n rfl rfl ?_
  refine g_get (ci := 1) (kk := 7) rfl rfl (rT_rd hW) hW.rdb rfl ?_
  refine g_l2i (v := e4) rfl (a32_id hU.1 hU.2) ?_
  refine g_put (ci := 0) (kk := 7) (fs' := [aR (g (2 * (st.2.2.1 t ((st.2.2.2.1 t))))), aR (g (2 * (st.2.2.1 t ((st.2.2.2.1 t))) + 1)), aI ((uN (uN (trAl st t (cps P e8 e9) e7 e6 e10) (st.2.2.1 t ((st.2.2.2.1 t))) 3 e2) (st.2.2.1 t ((st.2.2.2.1 t))) 4 e3).2.1 (st.2.2.1 t ((st.2.2.2.1 t))) 0), aI ((uN (uN (trAl st t (cps P e8 e9) e7 e6 e10) (st.2.2.1 t ((st.2.2.2.1 t))) 3 e2) (st.2.2.1 t ((st.2.2.2.1 t))) 4 e3).2.1 (st.2.2.1 t ((st.2.2.2.1 t))) 1), aI ((uN (uN (trAl st t (cps P e8 e9) e7 e6 e10) (st.2.2.1 t ((st.2.2.2.1 t))) 3 e2) (st.2.2.1 t ((st.2.2.2.1 t))) 4 e3).2.1 (st.2.2.1 t ((st.2.2.2.1 t))) 2), aI ((uN (uN (trAl st t (cps P e8 e9) e7 e6 e10) (st.2.2.1 t ((st.2.2.2.1 t))) 3 e2) (st.2.2.1 t ((st.2.2.2.1 t))) 4 e3).2.1 (st.2.2.1 t ((st.2.2.2.1 t))) 3), aI ((uN (uN (trAl st t (cps P e8 e9) e7 e6 e10) (st.2.2.1 t ((st.2.2.2.1 t))) 3 e2) (st.2.2.1 t ((st.2.2.2.1 t))) 4 e3).2.1 (st.2.2.1 t ((st.2.2.2.1 t))) 4), aI e4]) rfl rfl (hW.node hpm) (hW.nodeb hpm) (Nat.le_of_ble_eq_true rfl) rfl (by decide) rfl ?_
  generalize hg_hh5 : hput hh4 (g (400 + (st.2.2.1 t ((st.2.2.2.1 t))))) (eO 0 [aR (g (2 * (st.2.2.1 t ((st.2.2.2.1 t))))), aR (g (2 * (st.2.2.1 t ((st.2.2.2.1 t))) + 1)), aI ((uN (uN (trAl st t (cps P e8 e9) e7 e6 e10) (st.2.2.1 t ((st.2.2.2.1 t))) 3 e2) (st.2.2.1 t ((st.2.2.2.1 t))) 4 e3).2.1 (st.2.2.1 t ((st.2.2.2.1 t))) 0), aI ((uN (uN (trAl st t (cps P e8 e9) e7 e6 e10) (st.2.2.1 t ((st.2.2.2.1 t))) 3 e2) (st.2.2.1 t ((st.2.2.2.1 t))) 4 e3).2.1 (st.2.2.1 t ((st.2.2.2.1 t))) 1), aI ((uN (uN (trAl st t (cps P e8 e9) e7 e6 e10) (st.2.2.1 t ((st.2.2.2.1 t))) 3 e2) (st.2.2.1 t ((st.2.2.2.1 t))) 4 e3).2.1 (st.2.2.1 t ((st.2.2.2.1 t))) 2), aI ((uN (uN (trAl st t (cps P e8 e9) e7 e6 e10) (st.2.2.1 t ((st.2.2.2.1 t))) 3 e2) (st.2.2.1 t ((st.2.2.2.1 t))) 4 e3).2.1 (st.2.2.1 t ((st.2.2.2.1 t))) 3), aI ((uN (uN (trAl st t (cps P e8 e9) e7 e6 e10) (st.2.2.1 t ((st.2.2.2.1 t))) 3 e2) (st.2.2.1 t ((st.2.2.2.1 t))) 4 e3).2.1 (st.2.2.1 t ((st.2.2.2.1 t))) 4), aI e4]) = hh5
  have hW : WC K hh5 g (rT (tkN st t (cps P e8 e9) e7 e6 e10 e2 e3 e4) P T e0 e1 e2 e3 e4 e5 e6 e7 e8 e9 e10) cb sb := by
    rw [← hg_hh5]
    exact hW.setN hpm (by simp [uN, va_up, rT])
  refine g_aload_n rfl rfl ?_
  refine g_get (ci := 1) (kk := 9) rfl rfl (rT_rd hW) hW.rdb rfl ?_
  refine g_iconst (n := 2) rfl (by decide) ?_
  refine g_icmpne rfl rfl (fun c6 => ?_) (fun c6 => ?_)
  · skip
    have k2 : e6 ≠ 2 := c6
    refine g_aload_n rfl rfl ?_
    refine g_get (ci := 1) (kk := 9) rfl rfl (rT_rd hW) hW.rdb rfl ?_
    refine g_iconst (n := 1) rfl (by decide) ?_
    refine g_icmpne rfl rfl (fun c7 => ?_) (fun c7 => ?_)
    · skip
      have k1 : e6 ≠ 1 := c7
      have hW : WC K hh5 g (rT (tkS st t (cps P e8 e9) (if e6 = 2 then cps T 0 (T.length : Int) else cps (st.1 121) (e1 + 512) (e1 + 512 + e5)) e7 e6 e10 e2 e3 e4) P T e0 e1 e2 e3 e4 e5 e6 e7 e8 e9 e10) cb sb := by
        have e9x : (tkS st t (cps P e8 e9) (if e6 = 2 then cps T 0 (T.length : Int) else cps (st.1 121) (e1 + 512) (e1 + 512 + e5)) e7 e6 e10 e2 e3 e4) = (tkN st t (cps P e8 e9) e7 e6 e10 e2 e3 e4) := by unfold tkS; rw [if_neg (fun q => by omega)]
        rw [e9x]
        exact hW
      refine g_aload_n rfl rfl ?_
      refine g_dup rfl rfl ?_
      refine g_get (ci := 1) (kk := 3) rfl rfl (rT_rd hW) hW.rdb rfl ?_
      refine g_iconst (n := 1) rfl (by decide) ?_
      refine g_aload_n rfl rfl ?_
      refine g_get (ci := 1) (kk := 8) rfl rfl (rT_rd hW) hW.rdb rfl ?_
      refine g_l2i (v := e5) rfl (a32_id (by omega) (by omega)) ?_
      refine g_S (z := yTp_blocksOf) (e := 1) (A := [aI e5]) (rest := [aI 1, aI e0, aR (g 532)]) (v := aI ((e5 + 511) / 512)) (P := fun h2 => h2 = hh5) rfl rfl rfl rfl rfl rfl (by omega) (c_blocksOf _ (by omega) (by omega)) ?_
      intro hh9 he9
      rw [he9]
      clear he9 hh9
      refine g_iadd rfl (by omega) ?_
      refine g_iadd rfl (by omega) ?_
      refine g_put (ci := 1) (kk := 3) (fs' := [aR (g 530), aR (g 123), aR (g 124), aI (e0 + (1 + ((e5 + 511) / 512))), aI e1, aL e2, aL e3, aL e4, aL e5, aI e6, aI e7, aI e8, aI e9, aI e10]) rfl rfl (rT_rd hW) hW.rdb (Nat.le_of_ble_eq_true rfl) rfl (by decide) rfl ?_
      generalize hg_hh8 : hput hh5 (g 532) (eO 1 [aR (g 530), aR (g 123), aR (g 124), aI (e0 + (1 + ((e5 + 511) / 512))), aI e1, aL e2, aL e3, aL e4, aL e5, aI e6, aI e7, aI e8, aI e9, aI e10]) = hh8
      have hW := rT_set hW (e0 + (1 + ((e5 + 511) / 512))) e1 e2 e3 e4 e5 e6 e7 e8 e9 e10
      rw [hg_hh8] at hW
      exact r_v rfl rfl hW
    · skip
      have k1 : e6 = 1 := c7
      refine g_aload_n rfl rfl ?_
      refine g_get (ci := 0) (kk := 1) rfl rfl (hW.node hpm) (hW.nodeb hpm) rfl ?_
      refine g_aload_n rfl rfl ?_
      refine g_get (ci := 1) (kk := 0) rfl rfl (rT_rd hW) hW.rdb rfl ?_
      refine g_get (ci := 3) (kk := 0) rfl rfl hW.tape hW.tapeb rfl ?_
      refine g_aload_n rfl rfl ?_
      refine g_get (ci := 1) (kk := 4) rfl rfl (rT_rd hW) hW.rdb rfl ?_
      refine g_sipush (n := 512) rfl (by decide) ?_
      refine g_iadd rfl (by omega) ?_
      refine g_aload_n rfl rfl ?_
      refine g_get (ci := 1) (kk := 4) rfl rfl (rT_rd hW) hW.rdb rfl ?_
      refine g_sipush (n := 512) rfl (by decide) ?_
      refine g_iadd rfl (by omega) ?_
      refine g_aload_n rfl rfl ?_
      refine g_get (ci := 1) (kk := 8) rfl rfl (rT_rd hW) hW.rdb rfl ?_
      refine g_l2i (v := e5) rfl (a32_id (by omega) (by omega)) ?_
      refine g_iadd rfl (by omega) ?_
      have q121 : (rT (tkN st t (cps P e8 e9) e7 e6 e10 e2 e3 e4) P T e0 e1 e2 e3 e4 e5 e6 e7 e8 e9 e10).1 121 = st.1 121 := by
        show (tkN st t (cps P e8 e9) e7 e6 e10 e2 e3 e4).1 121 = _
        show va_up (va_up (va_up st.1 (2 * (st.2.2.1 t ((st.2.2.2.1 t)))) []) (2 * (st.2.2.1 t ((st.2.2.2.1 t))) + 1) []) (2 * (st.2.2.1 t ((st.2.2.2.1 t)))) (cps P e8 e9) 121 = _
        unfold va_up
        rw [if_neg (by omega), if_neg (by omega), if_neg (by omega)]
      refine g_Vn (z := yRw_copySlice) (e := 1) (A := [aI ((e1 + 512) + e5), aI (e1 + 512), aR (g 121)]) (rest := [])  rfl rfl rfl rfl rfl rfl (by omega) (hW.row (by omega)) (hW.rowb (by omega)) (c_copySlice (by omega) hW (r := 2 * (st.2.2.1 t ((st.2.2.2.1 t))) + 1) (r2 := 121) (by omega) (by omega) (by omega) (e1 + 512) (e1 + 512 + e5) (by omega) (by omega) (by rw [q121]; exact hf2 k1)) ?_
      intro hh9 hW
      have hW : WC K hh9 g (rT (tkS st t (cps P e8 e9) (if e6 = 2 then cps T 0 (T.length : Int) else cps (st.1 121) (e1 + 512) (e1 + 512 + e5)) e7 e6 e10 e2 e3 e4) P T e0 e1 e2 e3 e4 e5 e6 e7 e8 e9 e10) cb sb := by
        rw [rT_uR (by omega) (by omega), q121] at hW
        have e9x : (tkS st t (cps P e8 e9) (if e6 = 2 then cps T 0 (T.length : Int) else cps (st.1 121) (e1 + 512) (e1 + 512 + e5)) e7 e6 e10 e2 e3 e4) = uR (tkN st t (cps P e8 e9) e7 e6 e10 e2 e3 e4) (2 * (st.2.2.1 t ((st.2.2.2.1 t))) + 1) (cps (st.1 121) (e1 + 512) (e1 + 512 + e5)) := by unfold tkS; rw [if_pos (Or.inl k1), if_neg (by omega)]
        rw [e9x]
        exact hW
      refine g_aload_n rfl rfl ?_
      refine g_dup rfl rfl ?_
      refine g_get (ci := 1) (kk := 3) rfl rfl (rT_rd hW) hW.rdb rfl ?_
      refine g_iconst (n := 1) rfl (by decide) ?_
      refine g_aload_n rfl rfl ?_
      refine g_get (ci := 1) (kk := 8) rfl rfl (rT_rd hW) hW.rdb rfl ?_
      refine g_l2i (v := e5) rfl (a32_id (by omega) (by omega)) ?_
      refine g_S (z := yTp_blocksOf) (e := 1) (A := [aI e5]) (rest := [aI 1, aI e0, aR (g 532)]) (v := aI ((e5 + 511) / 512)) (P := fun h2 => h2 = hh9) rfl rfl rfl rfl rfl rfl (by omega) (c_blocksOf _ (by omega) (by omega)) ?_
      intro hh9 he9
      rw [he9]
      clear he9 hh9
      refine g_iadd rfl (by omega) ?_
      refine g_iadd rfl (by omega) ?_
      refine g_put (ci := 1) (kk := 3) (fs' := [aR (g 530), aR (g 123), aR (g 124), aI (e0 + (1 + ((e5 + 511) / 512))), aI e1, aL e2, aL e3, aL e4, aL e5, aI e6, aI e7, aI e8, aI e9, aI e10]) rfl rfl (rT_rd hW) hW.rdb (Nat.le_of_ble_eq_true rfl) rfl (by decide) rfl ?_
      generalize hg_hh10 : hput hh9 (g 532) (eO 1 [aR (g 530), aR (g 123), aR (g 124), aI (e0 + (1 + ((e5 + 511) / 512))), aI e1, aL e2, aL e3, aL e4, aL e5, aI e6, aI e7, aI e8, aI e9, aI e10]) = hh10
      have hW := rT_set hW (e0 + (1 + ((e5 + 511) / 512))) e1 e2 e3 e4 e5 e6 e7 e8 e9 e10
      rw [hg_hh10] at hW
      exact r_v rfl rfl hW
  · skip
    have k2 : e6 = 2 := c6
    refine g_aload_n rfl rfl ?_
    refine g_get (ci := 0) (kk := 1) rfl rfl (hW.node hpm) (hW.nodeb hpm) rfl ?_
    refine g_aload_n rfl rfl ?_
    refine g_get (ci := 1) (kk := 2) rfl rfl (rT_rd hW) hW.rdb rfl ?_
    refine g_iconst (n := 0) rfl (by decide) ?_
    refine g_aload_n rfl rfl ?_
    refine g_get (ci := 1) (kk := 2) rfl rfl (rT_rd hW) hW.rdb rfl ?_
    refine g_get (ci := 2) (kk := 1) rfl rfl (rT_r4 hW) (hW.rowb (by omega)) rfl ?_
    refine g_Vn (z := yRw_copySlice) (e := 1) (A := [aI ((T.length : Int)), aI 0, aR (g 124)]) (rest := [])  rfl rfl rfl rfl rfl rfl (by omega) (hW.row (by omega)) (hW.rowb (by omega)) (c_copySlice (by omega) hW (r := 2 * (st.2.2.1 t ((st.2.2.2.1 t))) + 1) (r2 := 124) (by omega) (by omega) (by omega) 0 (T.length : Int) (by omega) (by omega) (Int.le_refl _)) ?_
    intro hh11 hW
    have hW : WC K hh11 g (rT (tkS st t (cps P e8 e9) (if e6 = 2 then cps T 0 (T.length : Int) else cps (st.1 121) (e1 + 512) (e1 + 512 + e5)) e7 e6 e10 e2 e3 e4) P T e0 e1 e2 e3 e4 e5 e6 e7 e8 e9 e10) cb sb := by
      rw [rT_uR (by omega) (by omega)] at hW
      have e9x : (tkS st t (cps P e8 e9) (if e6 = 2 then cps T 0 (T.length : Int) else cps (st.1 121) (e1 + 512) (e1 + 512 + e5)) e7 e6 e10 e2 e3 e4) = uR (tkN st t (cps P e8 e9) e7 e6 e10 e2 e3 e4) (2 * (st.2.2.1 t ((st.2.2.2.1 t))) + 1) (cps T 0 (T.length : Int)) := by unfold tkS; rw [if_pos (Or.inr k2), if_pos k2]
      rw [e9x]
      exact hW
    refine g_aload_n rfl rfl ?_
    refine g_get (ci := 1) (kk := 9) rfl rfl (rT_rd hW) hW.rdb rfl ?_
    refine g_iconst (n := 1) rfl (by decide) ?_
    refine g_icmpne rfl rfl (fun c12 => ?_) (fun c => absurd c (by omega))
    refine g_aload_n rfl rfl ?_
    refine g_dup rfl rfl ?_
    refine g_get (ci := 1) (kk := 3) rfl rfl (rT_rd hW) hW.rdb rfl ?_
    refine g_iconst (n := 1) rfl (by decide) ?_
    refine g_aload_n rfl rfl ?_
    refine g_get (ci := 1) (kk := 8) rfl rfl (rT_rd hW) hW.rdb rfl ?_
    refine g_l2i (v := e5) rfl (a32_id (by omega) (by omega)) ?_
    refine g_S (z := yTp_blocksOf) (e := 1) (A := [aI e5]) (rest := [aI 1, aI e0, aR (g 532)]) (v := aI ((e5 + 511) / 512)) (P := fun h2 => h2 = hh11) rfl rfl rfl rfl rfl rfl (by omega) (c_blocksOf _ (by omega) (by omega)) ?_
    intro hh9 he9
    rw [he9]
    clear he9 hh9
    refine g_iadd rfl (by omega) ?_
    refine g_iadd rfl (by omega) ?_
    refine g_put (ci := 1) (kk := 3) (fs' := [aR (g 530), aR (g 123), aR (g 124), aI (e0 + (1 + ((e5 + 511) / 512))), aI e1, aL e2, aL e3, aL e4, aL e5, aI e6, aI e7, aI e8, aI e9, aI e10]) rfl rfl (rT_rd hW) hW.rdb (Nat.le_of_ble_eq_true rfl) rfl (by decide) rfl ?_
    generalize hg_hh13 : hput hh11 (g 532) (eO 1 [aR (g 530), aR (g 123), aR (g 124), aI (e0 + (1 + ((e5 + 511) / 512))), aI e1, aL e2, aL e3, aL e4, aL e5, aI e6, aI e7, aI e8, aI e9, aI e10]) = hh13
    have hW := rT_set hW (e0 + (1 + ((e5 + 511) / 512))) e1 e2 e3 e4 e5 e6 e7 e8 e9 e10
    rw [hg_hh13] at hW
    exact r_v rfl rfl hW
theorem tkE_121 (hs : shp st) (ht : t < 2) (hc : (st.2.2.2.1 t) < 30) (l : List Int) (b : Int) : (tkE st t l b).1 121 = st.1 121 := by
  have hpm := hs.1 t ((st.2.2.2.1 t)) ht hc
  have e : ∀ (L B : List Int) (D k z M O U : Int), (tkS st t L B D k z M O U).1 121 = st.1 121 := fun L B D k z M O U => by
    have e2 : (tkN st t L D k z M O U).1 121 = st.1 121 := by
      show va_up (va_up (va_up st.1 (2 * (st.2.2.1 t ((st.2.2.2.1 t)))) []) (2 * (st.2.2.1 t ((st.2.2.2.1 t))) + 1) []) (2 * (st.2.2.1 t ((st.2.2.2.1 t)))) L 121 = _
      unfold va_up
      rw [if_neg (by omega), if_neg (by omega), if_neg (by omega)]
    unfold tkS
    split
    · rw [uR_ne _ _ (by omega), e2]
    · exact e2
  exact e _ _ _ _ _ _ _ _
theorem feR_0 {l : List Int} {b : Int} (h : feR st t l b = 0) : b < (l.length : Int) / 512 ∧ numR l (b * 512) ∧ kokR l (b * 512) (lnR l b) ∧ pokR st t l (b * 512) (kndR l (b * 512)) ∧ tokR st t l (b * 512) (kndR l (b * 512)) ∧ (st.2.2.2.1 t) < 30 ∧ lnR l b ≤ 2000 ∧ b + (lnR l b + 511) / 512 < (l.length : Int) / 512 := by
  unfold feR at h
  by_cases z1 : (l.length : Int) / 512 ≤ b
  · rw [pk_t z1] at h; omega
  rw [pk_f z1] at h
  by_cases z2 : zbR l b
  · rw [pk_t z2] at h; omega
  rw [pk_f z2] at h
  by_cases z3 : ckR l b
  · rw [pk_t z3] at h
    by_cases z4 : mrR l (b * 512)
    · rw [pk_t z4] at h
      by_cases z5 : numR l (b * 512)
      · rw [pk_t z5] at h
        by_cases z6 : kokR l (b * 512) (lnR l b)
        · rw [pk_t z6] at h
          by_cases z7 : pokR st t l (b * 512) (kndR l (b * 512))
          · rw [pk_t z7] at h
            by_cases z8 : tokR st t l (b * 512) (kndR l (b * 512))
            · rw [pk_t z8] at h
              by_cases z9 : 30 ≤ (st.2.2.2.1 t) ∨ 2000 < lnR l b
              · rw [pk_t z9] at h; omega
              · rw [pk_f z9] at h
                unfold fcR at h
                by_cases z10 : (l.length : Int) / 512 ≤ b + (lnR l b + 511) / 512
                · rw [if_pos z10] at h; omega
                · exact ⟨by omega, z5, z6, z7, z8, by omega, by omega, by omega⟩
            · rw [pk_f z8] at h; omega
          · rw [pk_f z7] at h; omega
        · rw [pk_f z6] at h; omega
      · rw [pk_f z5] at h; omega
    · rw [pk_f z4] at h; omega
  · rw [pk_f z3] at h; omega
theorem feR_r (l : List Int) (b : Int) : 0 ≤ feR st t l b ∧ feR st t l b ≤ 11 := by
  have p : ∀ (p : Prop) (x y : Int), (0 ≤ x ∧ x ≤ 11) → (0 ≤ y ∧ y ≤ 11) → 0 ≤ pk p x y ∧ pk p x y ≤ 11 := fun p x y hx hy => by
    by_cases q : p
    · rw [pk_t q]; exact hx
    · rw [pk_f q]; exact hy
  have f : 0 ≤ fcR l b (lnR l b) ∧ fcR l b (lnR l b) ≤ 11 := by
    unfold fcR
    split
    · omega
    · split <;> omega
  unfold feR
  refine p _ _ _ (by omega) (p _ _ _ (by omega) (p _ _ _ (p _ _ _ (p _ _ _ (p _ _ _ (p _ _ _ (p _ _ _ (p _ _ _ (by omega) f) (by omega)) (by omega)) (by omega)) (by omega)) (by omega)) (by omega)))
theorem rT_clr (hp : st.2.2.1 t 0 < 60) : uC (bgn (rT st P T e0 e1 e2 e3 e4 e5 e6 e7 e8 e9 e10) ((rT st P T e0 e1 e2 e3 e4 e5 e6 e7 e8 e9 e10).2.2.1 t 0) 0 (-1) (-1)) t 1 = (rT (clrS st t) P T e0 e1 e2 e3 e4 e5 e6 e7 e8 e9 e10) := by
  show uC (bgn (rT st P T e0 e1 e2 e3 e4 e5 e6 e7 e8 e9 e10) (st.2.2.1 t 0) 0 (-1) (-1)) t 1 = _
  rw [rT_bgn hp]
  rfl
theorem tt_loop (hK : KOK K) (ht : t < 2) (l : List Int) (hl2 : l.length ≤ 10240) : ∀ (n i : Nat) (st : CS) (P T : List Int) (e0 e1 e2 e3 e4 e5 e6 e7 e8 e9 e10 : Int) (h : AH) (v3 : AV), i + n = 21 → st.1 121 = l → 0 ≤ e0 → e0 ≤ (l.length : Int) / 512 → WC K h g (rT st P T e0 e1 e2 e3 e4 e5 e6 e7 e8 e9 e10) cb sb → Go (d + 5) yRd_takeTree 11 [aR (g 532), aR (g (500 + t)), aI i, v3] [] h (RV (some (aI (trF t l n st e0).1)) (fun h2 => ∃ P' T' f1 f2 f3 f4 f5 f6 f7 f8 f9 f10, WC K h2 g (rT (trF t l n st e0).2.1 P' T' (trF t l n st e0).2.2 f1 f2 f3 f4 f5 f6 f7 f8 f9 f10) cb sb)) := by
  intro n
  induction n with
  | zero =>
    intro i st P T e0 e1 e2 e3 e4 e5 e6 e7 e8 e9 e10 h v3 hi h121 h0 hb hW
    refine g_iload_n rfl rfl ?_
    refine g_bipush (n := 20) rfl (by decide) ?_
    refine g_icmpgt rfl rfl (fun c1 => ?_) (fun c => absurd c (by omega))
    refine g_iconst (n := -1) rfl (by decide) ?_
    exact r_i rfl rfl rfl ⟨_, _, _, _, _, _, _, _, _, _, _, _, hW⟩
  | succ n ih =>
    intro i st P T e0 e1 e2 e3 e4 e5 e6 e7 e8 e9 e10 h v3 hi h121 h0 hb hW
    subst h121
    refine g_iload_n rfl rfl ?_
    refine g_bipush (n := 20) rfl (by decide) ?_
    refine g_icmpgt rfl rfl (fun c => absurd c (by omega)) (fun c1 => ?_)
    refine g_aload_n rfl rfl ?_
    refine g_get (ci := 1) (kk := 0) rfl rfl (rT_rd hW) hW.rdb rfl ?_
    refine g_aload_n rfl rfl ?_
    refine g_get (ci := 1) (kk := 3) rfl rfl (rT_rd hW) hW.rdb rfl ?_
    refine g_V (z := yTp_isBlockOfZeros) (e := 1) (A := [aI e0]) (rest := []) (v := aI (pz (zbR (st.1 121) e0))) (P := fun h2 => h2 = h) rfl rfl rfl rfl rfl rfl (by omega) hW.tape hW.tapeb (r_zb (by omega) hW e0 h0 (by omega)) ?_
    intro hh9 he9
    rw [he9]
    clear he9 hh9
    refine g_ifeq rfl rfl (fun c2 => ?_) (fun c2 => ?_)
    · skip
      have hz : ¬ (zbR (st.1 121) e0 ∧ zbR (st.1 121) (e0 + 1)) := fun q => pz_eq c2 q.1
      refine g_aload_n rfl rfl ?_
      refine g_aload_n rfl rfl ?_
      refine g_V (z := yRd_faultOfEntry) (e := 1) (A := [aR (g (500 + t))]) (rest := []) (v := aI (feR st t (st.1 121) e0))  rfl rfl rfl rfl rfl rfl (by omega) (rT_rd hW) hW.rdb (c_faultOfEntry (by omega) hK hW ht h0 (by omega)) ?_
      intro hh3 hq
      obtain ⟨P', T', f1, f2, f3, f4, f5, f6, f7, f8, f9, f10, hW, hfe⟩ := hq
      refine g_istore_n (L' := [aR (g 532), aR (g (500 + t)), aI ((i : Int)), aI (feR st t (st.1 121) e0)]) rfl rfl ?_
      refine g_iload_n rfl rfl ?_
      refine g_ifeq rfl rfl (fun c4 => ?_) (fun c4 => ?_)
      · skip
        rw [show trF t (st.1 121) (n + 1) st e0 = trF t (st.1 121) n (tkE st t (st.1 121) e0) (e0 + (1 + (lnR (st.1 121) e0 + 511) / 512)) from (@if_neg _ (Classical.propDecidable _) hz _ _ _).trans (if_pos c4)]
        obtain ⟨rfl, rfl, rfl, rfl, rfl, rfl, rfl, rfl, rfl, rfl, rfl, rfl⟩ := hfe c4
        obtain ⟨g1, g2, g3, g4, g5, g6, g7, g8⟩ := feR_0 c4
        have hW0 := hW
        refine g_aload_n rfl rfl ?_
        refine g_aload_n rfl rfl ?_
        have hln : 0 ≤ lnR (st.1 121) e0 := (octv_r g2.2.2.2.1).1
        have hmo := octv_r g2.1
        have how := octv_r g2.2.2.1
        have hti := octv_r g2.2.2.2.2.1
        have hnt := ntR_r (ptR (st.1 121) (e0 * 512))
        have hsl := lsl_r (ptR (st.1 121) (e0 * 512)) (ntR (ptR (st.1 121) (e0 * 512))).toNat
        have hsd : slsR (ptR (st.1 121) (e0 * 512)) = lsl (ptR (st.1 121) (e0 * 512)) (ntR (ptR (st.1 121) (e0 * 512))).toNat := rfl
        have hm1 := g2.2.1
        have ht1 := g2.2.2.2.2.2.1
        rw [show (8 : Int) ^ 7 = 2097152 from by decide] at hmo how
        refine g_Vn (z := yRd_takeEntry) (e := 1) (A := [aR (g (500 + t))]) (rest := [])  rfl rfl rfl rfl rfl rfl (by omega) (rT_rd hW) hW.rdb (c_takeEntry (by omega) hW ht g6 h0 (by omega) (by omega) (by omega) hnt.2 (by unfold r32; omega) (by unfold r32; omega) (by unfold r32; omega) hln g7 (by omega) (fun _ => by omega)) ?_
        intro hh5 hW
        have hs := rT_shp hW0
        have htg : cps (tgR (st.1 121) (e0 * 512)) 0 ((tgR (st.1 121) (e0 * 512)).length : Int) = tgR (st.1 121) (e0 * 512) := by
          unfold cps
          rw [show (((tgR (st.1 121) (e0 * 512)).length : Int) - 0).toNat = (tgR (st.1 121) (e0 * 512)).length by omega]
          refine (oF_ext fun j _ => ?_).trans (oF_of _)
          rw [show (0 : Int).toNat + j = j by simp]
        rw [htg] at hW
        refine g_iinc (L' := [aR (g 532), aR (g (500 + t)), aI ((i : Int) + 1), aI (feR st t (st.1 121) e0)]) rfl rfl (by omega) rfl ?_
        refine g_goto rfl rfl ?_
        exact ih (i + 1) (tkE st t (st.1 121) e0) _ _ _ _ _ _ _ _ _ _ _ _ _ _ _ (by omega) (tkE_121 hs ht g6 _ _) (by omega) (by omega) hW
      · skip
        rw [show trF t (st.1 121) (n + 1) st e0 = (-(feR st t (st.1 121) e0), st, e0) from (@if_neg _ (Classical.propDecidable _) hz _ _ _).trans (if_neg c4)]
        refine g_iload_n rfl rfl ?_
        have hfr := feR_r (st := st) (t := t) (st.1 121) e0
        refine g_ineg rfl (by omega) ?_
        exact r_i rfl rfl rfl ⟨_, _, _, _, _, _, _, _, _, _, _, _, hW⟩
    · skip
      have hz1 := pz_ne c2
      refine g_aload_n rfl rfl ?_
      refine g_get (ci := 1) (kk := 0) rfl rfl (rT_rd hW) hW.rdb rfl ?_
      refine g_aload_n rfl rfl ?_
      refine g_get (ci := 1) (kk := 3) rfl rfl (rT_rd hW) hW.rdb rfl ?_
      refine g_iconst (n := 1) rfl (by decide) ?_
      refine g_iadd rfl (by omega) ?_
      refine g_V (z := yTp_isBlockOfZeros) (e := 1) (A := [aI (e0 + 1)]) (rest := []) (v := aI (pz (zbR (st.1 121) (e0 + 1)))) (P := fun h2 => h2 = h) rfl rfl rfl rfl rfl rfl (by omega) hW.tape hW.tapeb (r_zb (by omega) hW (e0 + 1) (by omega) (by omega)) ?_
      intro hh9 he9
      rw [he9]
      clear he9 hh9
      refine g_ifeq rfl rfl (fun c6 => ?_) (fun c6 => ?_)
      · skip
        have hz : ¬ (zbR (st.1 121) e0 ∧ zbR (st.1 121) (e0 + 1)) := fun q => pz_eq c6 q.2
        refine g_aload_n rfl rfl ?_
        refine g_aload_n rfl rfl ?_
        refine g_V (z := yRd_faultOfEntry) (e := 1) (A := [aR (g (500 + t))]) (rest := []) (v := aI (feR st t (st.1 121) e0))  rfl rfl rfl rfl rfl rfl (by omega) (rT_rd hW) hW.rdb (c_faultOfEntry (by omega) hK hW ht h0 (by omega)) ?_
        intro hh7 hq
        obtain ⟨P', T', f1, f2, f3, f4, f5, f6, f7, f8, f9, f10, hW, hfe⟩ := hq
        refine g_istore_n (L' := [aR (g 532), aR (g (500 + t)), aI ((i : Int)), aI (feR st t (st.1 121) e0)]) rfl rfl ?_
        refine g_iload_n rfl rfl ?_
        refine g_ifeq rfl rfl (fun c8 => ?_) (fun c8 => ?_)
        · skip
          rw [show trF t (st.1 121) (n + 1) st e0 = trF t (st.1 121) n (tkE st t (st.1 121) e0) (e0 + (1 + (lnR (st.1 121) e0 + 511) / 512)) from (@if_neg _ (Classical.propDecidable _) hz _ _ _).trans (if_pos c8)]
          obtain ⟨rfl, rfl, rfl, rfl, rfl, rfl, rfl, rfl, rfl, rfl, rfl, rfl⟩ := hfe c8
          obtain ⟨g1, g2, g3, g4, g5, g6, g7, g8⟩ := feR_0 c8
          have hW0 := hW
          refine g_aload_n rfl rfl ?_
          refine g_aload_n rfl rfl ?_
          have hln : 0 ≤ lnR (st.1 121) e0 := (octv_r g2.2.2.2.1).1
          have hmo := octv_r g2.1
          have how := octv_r g2.2.2.1
          have hti := octv_r g2.2.2.2.2.1
          have hnt := ntR_r (ptR (st.1 121) (e0 * 512))
          have hsl := lsl_r (ptR (st.1 121) (e0 * 512)) (ntR (ptR (st.1 121) (e0 * 512))).toNat
          have hsd : slsR (ptR (st.1 121) (e0 * 512)) = lsl (ptR (st.1 121) (e0 * 512)) (ntR (ptR (st.1 121) (e0 * 512))).toNat := rfl
          have hm1 := g2.2.1
          have ht1 := g2.2.2.2.2.2.1
          rw [show (8 : Int) ^ 7 = 2097152 from by decide] at hmo how
          refine g_Vn (z := yRd_takeEntry) (e := 1) (A := [aR (g (500 + t))]) (rest := [])  rfl rfl rfl rfl rfl rfl (by omega) (rT_rd hW) hW.rdb (c_takeEntry (by omega) hW ht g6 h0 (by omega) (by omega) (by omega) hnt.2 (by unfold r32; omega) (by unfold r32; omega) (by unfold r32; omega) hln g7 (by omega) (fun _ => by omega)) ?_
          intro hh9 hW
          have hs := rT_shp hW0
          have htg : cps (tgR (st.1 121) (e0 * 512)) 0 ((tgR (st.1 121) (e0 * 512)).length : Int) = tgR (st.1 121) (e0 * 512) := by
            unfold cps
            rw [show (((tgR (st.1 121) (e0 * 512)).length : Int) - 0).toNat = (tgR (st.1 121) (e0 * 512)).length by omega]
            refine (oF_ext fun j _ => ?_).trans (oF_of _)
            rw [show (0 : Int).toNat + j = j by simp]
          rw [htg] at hW
          refine g_iinc (L' := [aR (g 532), aR (g (500 + t)), aI ((i : Int) + 1), aI (feR st t (st.1 121) e0)]) rfl rfl (by omega) rfl ?_
          refine g_goto rfl rfl ?_
          exact ih (i + 1) (tkE st t (st.1 121) e0) _ _ _ _ _ _ _ _ _ _ _ _ _ _ _ (by omega) (tkE_121 hs ht g6 _ _) (by omega) (by omega) hW
        · skip
          rw [show trF t (st.1 121) (n + 1) st e0 = (-(feR st t (st.1 121) e0), st, e0) from (@if_neg _ (Classical.propDecidable _) hz _ _ _).trans (if_neg c8)]
          refine g_iload_n rfl rfl ?_
          have hfr := feR_r (st := st) (t := t) (st.1 121) e0
          refine g_ineg rfl (by omega) ?_
          exact r_i rfl rfl rfl ⟨_, _, _, _, _, _, _, _, _, _, _, _, hW⟩
      · skip
        have hz2 := pz_ne c6
        rw [show trF t (st.1 121) (n + 1) st e0 = (((st.2.2.2.1 t) : Int), st, e0) from @if_pos _ (Classical.propDecidable _) ⟨hz1, hz2⟩ _ _ _]
        refine g_aload_n rfl rfl ?_
        refine g_get (ci := 4) (kk := 1) rfl rfl (rT_tree hW ht) (hW.treeb ht) rfl ?_
        exact r_i rfl rfl rfl ⟨_, _, _, _, _, _, _, _, _, _, _, _, hW⟩
noncomputable def trT (st : CS) (t : Nat) : Int × CS × Int := trF t (st.1 121) 21 (clrS st t) 0
theorem trT_n {n : Nat} (hn : n = 21) (st : CS) (t : Nat) : trT st t = trF t (st.1 121) n (clrS st t) 0 := by
  subst hn
  rfl
theorem c_takeTree (hd5 : 5 ≤ d) (hK : KOK K) (hW : WC K h g (rT st P T e0 e1 e2 e3 e4 e5 e6 e7 e8 e9 e10) cb sb) (ht : t < 2) : Cal d yRd_takeTree [aR (g 532), aR (g (500 + t))] h (RV (some (aI (trT st t).1)) (fun h2 => ∃ P' T' f1 f2 f3 f4 f5 f6 f7 f8 f9 f10, WC K h2 g (rT (trT st t).2.1 P' T' (trT st t).2.2 f1 f2 f3 f4 f5 f6 f7 f8 f9 f10) cb sb)) := by
  obtain ⟨n, hn⟩ : ∃ n, n = 21 := ⟨21, rfl⟩
  rw [trT_n hn]
  obtain ⟨d, rfl⟩ : ∃ e, d = e + 5 := ⟨d - 5, by omega⟩
  have hl9 : (st.1 121).length ≤ 10240 := hW.len (r := 121) (by omega)
  have hpm : st.2.2.1 t 0 < 60 := hW.pm ht (by omega)
  have h121 : (clrS st t).1 121 = st.1 121 := bgn_row st (st.2.2.1 t 0) 0 (-1) (-1) (r := 121) (by omega) (by omega)
  show Go _ _ 0 [aR (g 532), aR (g (500 + t)), none, none] [] _ _
  refine g_aload_n rfl rfl ?_
  refine g_Vn (z := yTr_clear) (e := 1) (A := []) (rest := [])  rfl rfl rfl rfl rfl rfl (by omega) (rT_tree hW ht) (hW.treeb ht) (c_clear (by omega) hW ht) ?_
  intro hh1 hW
  rw [rT_clr hpm] at hW
  refine g_aload_n rfl rfl ?_
  refine g_iconst (n := 0) rfl (by decide) ?_
  refine g_put (ci := 1) (kk := 3) (fs' := [aR (g 530), aR (g 123), aR (g 124), aI 0, aI e1, aL e2, aL e3, aL e4, aL e5, aI e6, aI e7, aI e8, aI e9, aI e10]) rfl rfl (rT_rd hW) hW.rdb (Nat.le_of_ble_eq_true rfl) rfl (by decide) rfl ?_
  generalize hg_hh2 : hput hh1 (g 532) (eO 1 [aR (g 530), aR (g 123), aR (g 124), aI 0, aI e1, aL e2, aL e3, aL e4, aL e5, aI e6, aI e7, aI e8, aI e9, aI e10]) = hh2
  have hW := rT_set hW 0 e1 e2 e3 e4 e5 e6 e7 e8 e9 e10
  rw [hg_hh2] at hW
  refine g_iconst (n := 0) rfl (by decide) ?_
  refine g_istore_n (L' := [aR (g 532), aR (g (500 + t)), aI 0, none]) rfl rfl ?_
  exact tt_loop (d := d) hK ht (st.1 121) hl9 n 0 (clrS st t) _ _ _ _ _ _ _ _ _ _ _ _ _ _ _ (by omega) h121 (by omega) (by omega) hW
end Reader3C
