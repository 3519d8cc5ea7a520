/-! Writer: headers, contents, entries, the whole tree. -/
noncomputable def hd1 (st : CS) (t i : Nat) (l : List Int) (f : Int) : List Int := poct (poct (poct (poct (poct (pph l f (pth st t i)) (f + 100) 7 ((st.2.1 (st.2.2.1 t i) 3))) (f + 108) 7 ((st.2.1 (st.2.2.1 t i) 4))) (f + 116) 7 0) (f + 124) 11 (cln st t i)) (f + 136) 11 ((st.2.1 (st.2.2.1 t i) 5))
noncomputable def hd2 (st : CS) (t i : Nat) (l : List Int) (f : Int) : List Int := rput (hd1 st t i l f) (f + 156) (typK ((st.2.1 (st.2.2.1 t i) 0)))
noncomputable def hd3 (st : CS) (t i : Nat) (l : List Int) (f : Int) : List Int := if (st.2.1 (st.2.2.1 t i) 0) = 2 then ovl (hd2 st t i l f) (f + 157) ((st.1 (2 * st.2.2.1 t i + 1))) else if (st.2.1 (st.2.2.1 t i) 0) = 3 then ovl (hd2 st t i l f) (f + 157) (pth st t ((st.2.1 (st.2.2.1 t i) 2))) else hd2 st t i l f
noncomputable def hdrL (st : CS) (t i : Nat) (l : List Int) (b : Int) : List Int := pchk (poct (poct (pmrk (hd3 st t i l (b * 512)) (b * 512 + 257)) (b * 512 + 329) 7 0) (b * 512 + 337) 7 0) b
noncomputable def entW (st : CS) (t i : Nat) (X : List Int × Int) : List Int × Int := (if (st.2.1 (st.2.2.1 t i) 0) = 1 then ovl (hdrL st t i X.1 X.2) ((X.2 + 1) * 512) ((st.1 (2 * st.2.2.1 t i + 1))) else hdrL st t i X.1 X.2, X.2 + bkn st t i)
noncomputable def peF (st : CS) (t : Nat) (hard : Int) : Nat → Nat → List Int × Int → List Int × Int
  | 0, _, X => X
  | n + 1, k, X => peF st t hard n (k + 1) (if pz (isK st t (sqX st t k) 3) = hard then entW st t (sqX st t k) X else X)
noncomputable def rsF (st : CS) (t : Nat) (hard : Int) : Nat → Nat → Nat
  | 0, _ => 0
  | n + 1, k => (if pz (isK st t (sqX st t k) 3) = hard then bkn st t (sqX st t k) else 0) + rsF st t hard n (k + 1)
theorem poct_len (l : List Int) (f : Int) (n : Nat) (v : Int) : (poct l f n v).length = l.length := oF_len _ _
theorem pmrk_len (l : List Int) (f : Int) : (pmrk l f).length = l.length := oF_len _ _
theorem pchk_len (l : List Int) (b : Int) : (pchk l b).length = l.length := by
  unfold pchk
  rw [rput_len, poct_len]
theorem hdrL_len (st : CS) (t i : Nat) (l : List Int) (b : Int) : (hdrL st t i l b).length = l.length := by
  have h2 : (hd2 st t i l (b * 512)).length = l.length := by
    unfold hd2 hd1
    rw [rput_len, poct_len, poct_len, poct_len, poct_len, poct_len, pph_len]
  unfold hdrL hd3
  rw [pchk_len, poct_len, poct_len, pmrk_len]
  split
  · rw [ovl_len, h2]
  · split
    · rw [ovl_len, h2]
    · exact h2
theorem entW_len (st : CS) (t i : Nat) (X : List Int × Int) : (entW st t i X).1.length = X.1.length := by
  unfold entW
  dsimp only
  split
  · rw [ovl_len, hdrL_len]
  · rw [hdrL_len]
theorem peF_len (st : CS) (t : Nat) (hard : Int) : ∀ (n k : Nat) (X : List Int × Int), (peF st t hard n k X).1.length = X.1.length ∧ (peF st t hard n k X).2 = X.2 + rsF st t hard n k := by
  intro n
  induction n with
  | zero => intro k X; exact ⟨rfl, by show X.2 = X.2 + 0; omega⟩
  | succ n ih =>
    intro k X
    unfold peF rsF
    obtain ⟨h1, h2⟩ := ih (k + 1) (if pz (isK st t (sqX st t k) 3) = hard then entW st t (sqX st t k) X else X)
    rw [h1, h2]
    split
    · refine ⟨entW_len _ _ _ _, ?_⟩
      show X.2 + (bkn st t (sqX st t k) : Int) + _ = _
      omega
    · exact ⟨rfl, by omega⟩
theorem TI.pne {st : CS} {t : Nat} (hT : TI st t) {i : Nat} (h0 : 0 < i) (hi : i < (st.2.2.2.1 t)) : pth st t i ≠ [] := by
  have h1 := (hT.n i h0 hi).1.2.1
  have h2 : 0 < (upl st t 30 i).length := by
    unfold upl
    rw [if_pos ⟨by omega, by omega⟩, List.length_append, List.length_append, Int.toNat_natCast]
    omega
  unfold pth
  intro q
  rw [List.append_eq_nil_iff] at q
  rw [q.1] at h2
  exact absurd h2 (Nat.lt_irrefl 0)
section Writer2C
variable {K : KE} {h : AH} {g : Nat → Nat} {st : CS} {cb sb : Nat} {d t : Nat} {l p : List Int} {b : Int}
theorem wS_setb (hW : WC K h g (wS st l p b) cb sb) (b' : Int) : WC K (hput h (g 531) (eO 6 [aR (g 530), aR (g 122), aI b'])) g (wS st l p b') cb sb := by
  have k := hW.setM (c0 := 531) (k := 2) (v := b') (e := eO 6 [aR (g 530), aR (g 122), aI b']) ⟨by omega, by omega⟩ rfl (fun c h1 h2 h3 => by
    rcases (by omega : c = 532 ∨ c = 533) with q | q <;> subst q <;> rfl) (fun q => absurd q (by decide))
  rw [wS_M] at k
  exact k
theorem cln_le (hT : TI st t) {i : Nat} (hi : i < (st.2.2.2.1 t)) : cln st t i ≤ 2000 := by
  unfold cln
  split
  · rename_i q
    exact (hT.b i hi).1 q
  · omega
theorem c_putContents (hd2 : 2 ≤ d) (hT : TI st t) (hW : WC K h g (wS st l p b) cb sb) (ht : t < 2) {i : Nat} (hi : i < (st.2.2.2.1 t)) (hb : 0 ≤ b) (hb2 : b ≤ 100) (hl : b * 512 + cln st t i ≤ l.length) : Cal d yWr_putContents [aR (g 531), aR (g (400 + st.2.2.1 t i))] h (RV none (fun h2 => WC K h2 g (wS st (if (st.2.1 (st.2.2.1 t i) 0) = 1 then ovl l (b * 512) ((st.1 (2 * st.2.2.1 t i + 1))) else l) p (b + ((cln st t i + 511) / 512 : Nat))) cb sb)) := by
  have hc := hT.c
  have hpm : st.2.2.1 t i < 60 := hW.pm ht (by omega)
  have hcl := cln_le hT hi
  have hl2 := wS_l1 hW
  have hbd := wS_bd hW hpm
  show Go _ _ 0 [aR (g 531), aR (g (400 + st.2.2.1 t i))] [] _ _
  refine g_aload_n rfl rfl ?_
  refine g_get (ci := 0) (kk := 2) rfl rfl (wS_node hW hpm) (hW.nodeb hpm) rfl ?_
  refine g_iconst (n := 1) rfl (by decide) ?_
  refine g_icmpne rfl rfl (fun c1 => ?_) (fun c1 => ?_)
  · skip
    have hck : cln st t i = 0 := by unfold cln; rw [if_neg c1]
    rw [if_neg c1, hck, show ((0 + 511) / 512 : Nat) = 0 from rfl, show b + ((0 : Nat) : Int) = b from by omega]
    exact r_v rfl rfl hW
  · skip
    have hck : cln st t i = ((st.1 (2 * st.2.2.1 t i + 1))).length := by unfold cln; rw [if_pos c1]
    rw [if_pos c1]
    refine g_aload_n rfl rfl ?_
    refine g_get (ci := 6) (kk := 0) rfl rfl (wS_wr hW) hW.wrb rfl ?_
    refine g_get (ci := 3) (kk := 0) rfl rfl hW.tape hW.tapeb rfl ?_
    refine g_aload_n rfl rfl ?_
    refine g_get (ci := 6) (kk := 2) rfl rfl (wS_wr hW) hW.wrb rfl ?_
    refine g_sipush (n := 512) rfl (by decide) ?_
    refine g_imul rfl (by omega) ?_
    refine g_aload_n rfl rfl ?_
    refine g_get (ci := 0) (kk := 1) rfl rfl (wS_node hW hpm) (hW.nodeb hpm) rfl ?_
    refine g_Vn (z := yRw_putAll) (e := 1) (A := [aR (g (2 * st.2.2.1 t i + 1)), aI (b * 512)]) (rest := [])  rfl rfl rfl rfl rfl rfl (by omega) (wS_r1 hW) (hW.rowb (by omega)) (c_putAll (by omega) hW (r := 121) (r2 := 2 * st.2.2.1 t i + 1) (by omega) (by omega) (by omega) (b * 512) (by omega) (by rw [hbd]; show _ ≤ (l.length : Int); omega)) ?_
    intro hh2 hW
    have hW : WC K hh2 g (wS st (ovl l (b * 512) ((st.1 (2 * st.2.2.1 t i + 1)))) p b) cb sb := by
      rw [hbd, wS_R1] at hW
      exact hW
    refine g_aload_n rfl rfl ?_
    refine g_dup rfl rfl ?_
    refine g_get (ci := 6) (kk := 2) rfl rfl (wS_wr hW) hW.wrb rfl ?_
    refine g_aload_n rfl rfl ?_
    refine g_get (ci := 0) (kk := 1) rfl rfl (wS_node hW hpm) (hW.nodeb hpm) rfl ?_
    refine g_get (ci := 2) (kk := 1) rfl rfl (wS_rb hW hpm) (hW.rowb (by omega)) rfl ?_
    refine g_S (z := yTp_blocksOf) (e := 1) (A := [aI ((((st.1 (2 * st.2.2.1 t i + 1))).length : Int))]) (rest := [aI b, aR (g 531)]) (v := aI (((((st.1 (2 * st.2.2.1 t i + 1))).length : Int) + 511) / 512)) (P := fun h2 => h2 = hh2) rfl rfl rfl rfl rfl rfl (by omega) (c_blocksOf _ (by omega) (by omega)) ?_
    intro hh9 he9
    rw [he9]
    clear he9 hh9
    refine g_iadd rfl (by omega) ?_
    refine g_put (ci := 6) (kk := 2) (fs' := [aR (g 530), aR (g 122), aI (b + (((((st.1 (2 * st.2.2.1 t i + 1))).length : Int) + 511) / 512))]) rfl rfl (wS_wr hW) hW.wrb (Nat.le_of_ble_eq_true rfl) rfl (by decide) rfl ?_
    generalize hg_hh3 : hput hh2 (g 531) (eO 6 [aR (g 530), aR (g 122), aI (b + (((((st.1 (2 * st.2.2.1 t i + 1))).length : Int) + 511) / 512))]) = hh3
    have hW := wS_setb hW (b + ((((st.1 (2 * st.2.2.1 t i + 1))).length : Int) + 511) / 512)
    rw [hg_hh3] at hW
    rw [show ((((cln st t i + 511) / 512 : Nat)) : Int) = ((((st.1 (2 * st.2.2.1 t i + 1))).length : Int) + 511) / 512 from by omega]
    exact r_v rfl rfl hW
theorem c_putHeader (hd3' : 3 ≤ d) (hK : KOK K) (hT : TI st t) (hW : WC K h g (wS st l p b) cb sb) (ht : t < 2) {i : Nat} (h0 : 0 < i) (hi : i < (st.2.2.2.1 t)) (hte : tel st t i) (hb : 0 ≤ b) (hl : (b + 1) * 512 ≤ l.length) : Cal d yWr_putHeader [aR (g 531), aR (g (500 + t)), aI i] h (RV none (fun h2 => ∃ p', WC K h2 g (wS st (hdrL st t i l b) p' (b + 1)) cb sb)) := by
  have hc := hT.c
  have hpm : st.2.2.1 t i < 60 := hW.pm ht (by omega)
  have hcl := cln_le hT hi
  have hl2 := wS_l1 hW
  have hv := hT.v i hi
  have hpl := pln_pth st t i
  have hpl2 := pln_pth st t ((st.2.1 (st.2.2.1 t i) 2))
  have hbb := hT.b i hi
  have hcut : 100 < (pth st t i).length → cutP (pth st t i) ≠ -1 ∧ cutP (pth st t i) ≤ 155 := fun q => hte.1 (by omega)
  have hfl := hte.2
  show Go _ _ 0 [aR (g 531), aR (g (500 + t)), aI i, none, none] [] _ _
  refine g_aload_n rfl rfl ?_
  refine g_get (ci := 4) (kk := 0) rfl rfl (wS_tree hW ht) (hW.treeb ht) rfl ?_
  refine g_iload_n rfl rfl ?_
  refine g_aald (b := g (400 + st.2.2.1 t i)) rfl (wS_arr hW ht) (by decide) (hW.arrb ht) (by omega) (nar_t (by omega)) ?_
  refine g_astore_n (L' := [aR (g 531), aR (g (500 + t)), aI ((i : Int)), aR (g (400 + st.2.2.1 t i)), none]) rfl rfl ?_
  refine g_aload_n rfl rfl ?_
  refine g_get (ci := 6) (kk := 2) rfl rfl (wS_wr hW) hW.wrb rfl ?_
  refine g_sipush (n := 512) rfl (by decide) ?_
  refine g_imul rfl (by omega) ?_
  obtain ⟨f, hf⟩ : ∃ f, b * 512 = f := ⟨_, rfl⟩
  rw [hf]
  refine g_istore (L' := [aR (g 531), aR (g (500 + t)), aI ((i : Int)), aR (g (400 + st.2.2.1 t i)), aI f]) rfl rfl ?_
  refine g_aload_n rfl rfl ?_
  refine g_iload_n rfl rfl ?_
  refine g_aload_n rfl rfl ?_
  refine g_get (ci := 6) (kk := 1) rfl rfl (wS_wr hW) hW.wrb rfl ?_
  refine g_Vn (z := yTr_spellPath) (e := 1) (A := [aR (g 122), aI ((i : Int))]) (rest := [])  rfl rfl rfl rfl rfl rfl (by omega) (wS_tree hW ht) (hW.treeb ht) (w_spellPath (by omega) hT hW ht _) ?_
  intro hh1 hW
  refine g_aload_n rfl rfl ?_
  refine g_iload rfl rfl ?_
  refine g_Vn (z := yWr_putPath) (e := 1) (A := [aI f]) (rest := [])  rfl rfl rfl rfl rfl rfl (by omega) (wS_wr hW) hW.wrb (c_putPath (by omega) hW _ (by omega) (by omega) (hT.pne h0 hi) hcut) ?_
  intro hh2 hW
  have hx1 : (pph l f (pth st t i)).length = l.length := pph_len _ _ _
  generalize hX1 : pph l f (pth st t i) = X1 at hW hx1
  refine g_aload_n rfl rfl ?_
  refine g_get (ci := 6) (kk := 0) rfl rfl (wS_wr hW) hW.wrb rfl ?_
  refine g_iload rfl rfl ?_
  refine g_bipush (n := 100) rfl (by decide) ?_
  refine g_iadd rfl (by omega) ?_
  refine g_bipush (n := 7) rfl (by decide) ?_
  refine g_aload_n rfl rfl ?_
  refine g_get (ci := 0) (kk := 5) rfl rfl (wS_node hW hpm) (hW.nodeb hpm) rfl ?_
  refine g_Vn (z := yTp_putOctal) (e := 1) (A := [aI ((st.2.1 (st.2.2.1 t i) 3)), aI 7, aI (f + 100)]) (rest := [])  rfl rfl rfl rfl rfl rfl (by omega) hW.tape hW.tapeb (c_putOctal (by omega) hW (f + 100) ((st.2.1 (st.2.2.1 t i) 3)) 7 (by omega) (by omega) (show _ < (X1.length : Int) by omega) (by omega) (by omega)) ?_
  intro hh3 hW
  have hW : WC K hh3 g (wS st (poct X1 (f + 100) 7 ((st.2.1 (st.2.2.1 t i) 3))) (pth st t i) b) cb sb := by
    rw [wS_R1] at hW
    exact hW
  have hx2 : (poct X1 (f + 100) 7 ((st.2.1 (st.2.2.1 t i) 3))).length = l.length := (poct_len _ _ _ _).trans hx1
  generalize hX2 : poct X1 (f + 100) 7 ((st.2.1 (st.2.2.1 t i) 3)) = X2 at hW hx2
  refine g_aload_n rfl rfl ?_
  refine g_get (ci := 6) (kk := 0) rfl rfl (wS_wr hW) hW.wrb rfl ?_
  refine g_iload rfl rfl ?_
  refine g_bipush (n := 108) rfl (by decide) ?_
  refine g_iadd rfl (by omega) ?_
  refine g_bipush (n := 7) rfl (by decide) ?_
  refine g_aload_n rfl rfl ?_
  refine g_get (ci := 0) (kk := 6) rfl rfl (wS_node hW hpm) (hW.nodeb hpm) rfl ?_
  refine g_Vn (z := yTp_putOctal) (e := 1) (A := [aI ((st.2.1 (st.2.2.1 t i) 4)), aI 7, aI (f + 108)]) (rest := [])  rfl rfl rfl rfl rfl rfl (by omega) hW.tape hW.tapeb (c_putOctal (by omega) hW (f + 108) ((st.2.1 (st.2.2.1 t i) 4)) 7 (by omega) (by omega) (show _ < (X2.length : Int) by omega) (by omega) (by omega)) ?_
  intro hh4 hW
  have hW : WC K hh4 g (wS st (poct X2 (f + 108) 7 ((st.2.1 (st.2.2.1 t i) 4))) (pth st t i) b) cb sb := by
    rw [wS_R1] at hW
    exact hW
  have hx3 : (poct X2 (f + 108) 7 ((st.2.1 (st.2.2.1 t i) 4))).length = l.length := (poct_len _ _ _ _).trans hx2
  generalize hX3 : poct X2 (f + 108) 7 ((st.2.1 (st.2.2.1 t i) 4)) = X3 at hW hx3
  refine g_aload_n rfl rfl ?_
  refine g_get (ci := 6) (kk := 0) rfl rfl (wS_wr hW) hW.wrb rfl ?_
  refine g_iload rfl rfl ?_
  refine g_bipush (n := 116) rfl (by decide) ?_
  refine g_iadd rfl (by omega) ?_
  refine g_bipush (n := 7) rfl (by decide) ?_
  refine g_iconst (n := 0) rfl (by decide) ?_
  refine g_Vn (z := yTp_putOctal) (e := 1) (A := [aI 0, aI 7, aI (f + 116)]) (rest := [])  rfl rfl rfl rfl rfl rfl (by omega) hW.tape hW.tapeb (c_putOctal (by omega) hW (f + 116) (0) 7 (by omega) (by omega) (show _ < (X3.length : Int) by omega) (by omega) (by omega)) ?_
  intro hh5 hW
  have hW : WC K hh5 g (wS st (poct X3 (f + 116) 7 (0)) (pth st t i) b) cb sb := by
    rw [wS_R1] at hW
    exact hW
  have hx4 : (poct X3 (f + 116) 7 (0)).length = l.length := (poct_len _ _ _ _).trans hx3
  generalize hX4 : poct X3 (f + 116) 7 (0) = X4 at hW hx4
  refine g_aload_n rfl rfl ?_
  refine g_get (ci := 6) (kk := 0) rfl rfl (wS_wr hW) hW.wrb rfl ?_
  refine g_iload rfl rfl ?_
  refine g_bipush (n := 124) rfl (by decide) ?_
  refine g_iadd rfl (by omega) ?_
  refine g_bipush (n := 11) rfl (by decide) ?_
  refine g_aload_n rfl rfl ?_
  refine g_V (z := yNd_contentsLength) (e := 1) (A := []) (rest := [aI 11, aI (f + 124), aR (g 530)]) (v := aI ((cln st t i : Int))) (P := fun h2 => h2 = hh5) rfl rfl rfl rfl rfl rfl (by omega) (wS_node hW hpm) (hW.nodeb hpm) (w_cln hW ht (i := i) (by omega)) ?_
  intro hh9 he9
  rw [he9]
  clear he9 hh9
  refine g_Vn (z := yTp_putOctal) (e := 1) (A := [aI ((cln st t i : Int)), aI 11, aI (f + 124)]) (rest := [])  rfl rfl rfl rfl rfl rfl (by omega) hW.tape hW.tapeb (c_putOctal (by omega) hW (f + 124) ((cln st t i : Int)) 11 (by omega) (by omega) (show _ < (X4.length : Int) by omega) (by omega) (by omega)) ?_
  intro hh6 hW
  have hW : WC K hh6 g (wS st (poct X4 (f + 124) 11 ((cln st t i : Int))) (pth st t i) b) cb sb := by
    rw [wS_R1] at hW
    exact hW
  have hx5 : (poct X4 (f + 124) 11 ((cln st t i : Int))).length = l.length := (poct_len _ _ _ _).trans hx4
  generalize hX5 : poct X4 (f + 124) 11 ((cln st t i : Int)) = X5 at hW hx5
  refine g_aload_n rfl rfl ?_
  refine g_get (ci := 6) (kk := 0) rfl rfl (wS_wr hW) hW.wrb rfl ?_
  refine g_iload rfl rfl ?_
  refine g_sipush (n := 136) rfl (by decide) ?_
  refine g_iadd rfl (by omega) ?_
  refine g_bipush (n := 11) rfl (by decide) ?_
  refine g_aload_n rfl rfl ?_
  refine g_get (ci := 0) (kk := 7) rfl rfl (wS_node hW hpm) (hW.nodeb hpm) rfl ?_
  refine g_Vn (z := yTp_putOctal) (e := 1) (A := [aI ((st.2.1 (st.2.2.1 t i) 5)), aI 11, aI (f + 136)]) (rest := [])  rfl rfl rfl rfl rfl rfl (by omega) hW.tape hW.tapeb (c_putOctal (by omega) hW (f + 136) ((st.2.1 (st.2.2.1 t i) 5)) 11 (by omega) (by omega) (show _ < (X5.length : Int) by omega) (by omega) (by omega)) ?_
  intro hh7 hW
  have hW : WC K hh7 g (wS st (poct X5 (f + 136) 11 ((st.2.1 (st.2.2.1 t i) 5))) (pth st t i) b) cb sb := by
    rw [wS_R1] at hW
    exact hW
  have hx6 : (poct X5 (f + 136) 11 ((st.2.1 (st.2.2.1 t i) 5))).length = l.length := (poct_len _ _ _ _).trans hx5
  generalize hX6 : poct X5 (f + 136) 11 ((st.2.1 (st.2.2.1 t i) 5)) = X6 at hW hx6
  refine g_aload_n rfl rfl ?_
  refine g_get (ci := 6) (kk := 0) rfl rfl (wS_wr hW) hW.wrb rfl ?_
  refine g_get (ci := 3) (kk := 0) rfl rfl hW.tape hW.tapeb rfl ?_
  refine g_iload rfl rfl ?_
  refine g_sipush (n := 156) rfl (by decide) ?_
  refine g_iadd rfl (by omega) ?_
  refine g_aload_n rfl rfl ?_
  refine g_get (ci := 0) (kk := 2) rfl rfl (wS_node hW hpm) (hW.nodeb hpm) rfl ?_
  refine g_S (z := yTt_typeOf) (e := 1) (A := [aI ((st.2.1 (st.2.2.1 t i) 0))]) (rest := [aI (f + 156), aR (g 121)]) (v := aI (typK ((st.2.1 (st.2.2.1 t i) 0)))) (P := fun h2 => h2 = hh7) rfl rfl rfl rfl rfl rfl (by omega) (c_typeOf _) ?_
  intro hh9 he9
  rw [he9]
  clear he9 hh9
  refine g_Vn (z := yRw_put) (e := 1) (A := [aI (typK ((st.2.1 (st.2.2.1 t i) 0))), aI (f + 156)]) (rest := [])  rfl rfl rfl rfl rfl rfl (by omega) (wS_r1 hW) (hW.rowb (by omega)) (c_put hW (r := 121) (by omega) _ _) ?_
  intro hh8 hW
  have hW : WC K hh8 g (wS st (rput X6 (f + 156) (typK ((st.2.1 (st.2.2.1 t i) 0)))) (pth st t i) b) cb sb := by
    rw [wS_R1] at hW
    exact hW
  have hx7 : (rput X6 (f + 156) (typK ((st.2.1 (st.2.2.1 t i) 0)))).length = l.length := (rput_len _ _ _).trans hx6
  generalize hX7 : rput X6 (f + 156) (typK ((st.2.1 (st.2.2.1 t i) 0))) = X7 at hW hx7
  refine g_aload_n rfl rfl ?_
  refine g_get (ci := 0) (kk := 2) rfl rfl (wS_node hW hpm) (hW.nodeb hpm) rfl ?_
  refine g_iconst (n := 2) rfl (by decide) ?_
  refine g_icmpne rfl rfl (fun c9 => ?_) (fun c9 => ?_)
  · skip
    have hk2 : (st.2.1 (st.2.2.1 t i) 0) ≠ 2 := c9
    refine g_aload_n rfl rfl ?_
    refine g_get (ci := 0) (kk := 2) rfl rfl (wS_node hW hpm) (hW.nodeb hpm) rfl ?_
    refine g_iconst (n := 3) rfl (by decide) ?_
    refine g_icmpne rfl rfl (fun c10 => ?_) (fun c10 => ?_)
    · skip
      have hk3 : ∀ (a b c : List Int), (if (st.2.1 (st.2.2.1 t i) 0) = 2 then a else if (st.2.1 (st.2.2.1 t i) 0) = 3 then b else c) = c := fun a b c => (if_neg hk2).trans (if_neg c10)
      refine g_aload_n rfl rfl ?_
      refine g_get (ci := 6) (kk := 0) rfl rfl (wS_wr hW) hW.wrb rfl ?_
      refine g_iload rfl rfl ?_
      refine g_sipush (n := 257) rfl (by decide) ?_
      refine g_iadd rfl (by omega) ?_
      refine g_Vn (z := yTp_putMark) (e := 1) (A := [aI (f + 257)]) (rest := [])  rfl rfl rfl rfl rfl rfl (by omega) hW.tape hW.tapeb (c_putMark (by omega) hK hW (f + 257) (by omega) (show _ ≤ (X7.length : Int) by omega)) ?_
      intro hh11 hW
      have hW : WC K hh11 g (wS st (pmrk X7 (f + 257)) (pth st t i) b) cb sb := by
        rw [wS_R1] at hW
        exact hW
      have hx8 : (pmrk X7 (f + 257)).length = l.length := (pmrk_len _ _).trans hx7
      generalize hX8 : pmrk X7 (f + 257) = X8 at hW hx8
      refine g_aload_n rfl rfl ?_
      refine g_get (ci := 6) (kk := 0) rfl rfl (wS_wr hW) hW.wrb rfl ?_
      refine g_iload rfl rfl ?_
      refine g_sipush (n := 329) rfl (by decide) ?_
      refine g_iadd rfl (by omega) ?_
      refine g_bipush (n := 7) rfl (by decide) ?_
      refine g_iconst (n := 0) rfl (by decide) ?_
      refine g_Vn (z := yTp_putOctal) (e := 1) (A := [aI 0, aI 7, aI (f + 329)]) (rest := [])  rfl rfl rfl rfl rfl rfl (by omega) hW.tape hW.tapeb (c_putOctal (by omega) hW (f + 329) (0) 7 (by omega) (by omega) (show _ < (X8.length : Int) by omega) (by omega) (by omega)) ?_
      intro hh12 hW
      have hW : WC K hh12 g (wS st (poct X8 (f + 329) 7 (0)) (pth st t i) b) cb sb := by
        rw [wS_R1] at hW
        exact hW
      have hx9 : (poct X8 (f + 329) 7 (0)).length = l.length := (poct_len _ _ _ _).trans hx8
      generalize hX9 : poct X8 (f + 329) 7 (0) = X9 at hW hx9
      refine g_aload_n rfl rfl ?_
      refine g_get (ci := 6) (kk := 0) rfl rfl (wS_wr hW) hW.wrb rfl ?_
      refine g_iload rfl rfl ?_
      refine g_sipush (n := 337) rfl (by decide) ?_
      refine g_iadd rfl (by omega) ?_
      refine g_bipush (n := 7) rfl (by decide) ?_
      refine g_iconst (n := 0) rfl (by decide) ?_
      refine g_Vn (z := yTp_putOctal) (e := 1) (A := [aI 0, aI 7, aI (f + 337)]) (rest := [])  rfl rfl rfl rfl rfl rfl (by omega) hW.tape hW.tapeb (c_putOctal (by omega) hW (f + 337) (0) 7 (by omega) (by omega) (show _ < (X9.length : Int) by omega) (by omega) (by omega)) ?_
      intro hh13 hW
      have hW : WC K hh13 g (wS st (poct X9 (f + 337) 7 (0)) (pth st t i) b) cb sb := by
        rw [wS_R1] at hW
        exact hW
      have hx10 : (poct X9 (f + 337) 7 (0)).length = l.length := (poct_len _ _ _ _).trans hx9
      generalize hX10 : poct X9 (f + 337) 7 (0) = X10 at hW hx10
      refine g_aload_n rfl rfl ?_
      refine g_get (ci := 6) (kk := 0) rfl rfl (wS_wr hW) hW.wrb rfl ?_
      refine g_aload_n rfl rfl ?_
      refine g_get (ci := 6) (kk := 2) rfl rfl (wS_wr hW) hW.wrb rfl ?_
      refine g_V (z := yTp_putCheck) (e := 1) (A := [aI b]) (rest := []) (v := aI (sums X10 b 512))  rfl rfl rfl rfl rfl rfl (by omega) hW.tape hW.tapeb (c_putCheck (by omega) hW b hb (show _ ≤ (X10.length : Int) by omega)) ?_
      intro hh14 hW
      have hW : WC K hh14 g (wS st (pchk X10 b) (pth st t i) b) cb sb := by
        rw [wS_R1] at hW
        exact hW
      have hx11 : (pchk X10 b).length = l.length := (pchk_len _ _).trans hx10
      generalize hX11 : pchk X10 b = X11 at hW hx11
      refine g_pop rfl rfl ?_
      refine g_aload_n rfl rfl ?_
      refine g_dup rfl rfl ?_
      refine g_get (ci := 6) (kk := 2) rfl rfl (wS_wr hW) hW.wrb rfl ?_
      refine g_iconst (n := 1) rfl (by decide) ?_
      refine g_iadd rfl (by omega) ?_
      refine g_put (ci := 6) (kk := 2) (fs' := [aR (g 530), aR (g 122), aI (b + 1)]) rfl rfl (wS_wr hW) hW.wrb (Nat.le_of_ble_eq_true rfl) rfl (by decide) rfl ?_
      generalize hg_hh15 : hput hh14 (g 531) (eO 6 [aR (g 530), aR (g 122), aI (b + 1)]) = hh15
      have hW := wS_setb hW (b + 1)
      rw [hg_hh15] at hW
      have e : hdrL st t i l b = X11 := by
        unfold hdrL hd3 hd2 hd1
        rw [hk3, hf, hX1, hX2, hX3, hX4, hX5, hX6, hX7, hX8, hX9, hX10, hX11]
      rw [e]
      exact r_v rfl rfl ⟨_, hW⟩
    · skip
      have hk3 : ∀ (a b c : List Int), (if (st.2.1 (st.2.2.1 t i) 0) = 2 then a else if (st.2.1 (st.2.2.1 t i) 0) = 3 then b else c) = b := fun a b c => (if_neg hk2).trans (if_pos c10)
      refine g_aload_n rfl rfl ?_
      refine g_aload_n rfl rfl ?_
      refine g_get (ci := 0) (kk := 4) rfl rfl (wS_node hW hpm) (hW.nodeb hpm) rfl ?_
      refine g_aload_n rfl rfl ?_
      refine g_get (ci := 6) (kk := 1) rfl rfl (wS_wr hW) hW.wrb rfl ?_
      refine g_Vn (z := yTr_spellPath) (e := 1) (A := [aR (g 122), aI ((st.2.1 (st.2.2.1 t i) 2))]) (rest := [])  rfl rfl rfl rfl rfl rfl (by omega) (wS_tree hW ht) (hW.treeb ht) (w_spellPath (by omega) hT hW ht _) ?_
      intro hh16 hW
      refine g_aload_n rfl rfl ?_
      refine g_get (ci := 6) (kk := 0) rfl rfl (wS_wr hW) hW.wrb rfl ?_
      refine g_get (ci := 3) (kk := 0) rfl rfl hW.tape hW.tapeb rfl ?_
      refine g_iload rfl rfl ?_
      refine g_sipush (n := 157) rfl (by decide) ?_
      refine g_iadd rfl (by omega) ?_
      refine g_aload_n rfl rfl ?_
      refine g_get (ci := 6) (kk := 1) rfl rfl (wS_wr hW) hW.wrb rfl ?_
      refine g_Vn (z := yRw_putAll) (e := 1) (A := [aR (g 122), aI (f + 157)]) (rest := [])  rfl rfl rfl rfl rfl rfl (by omega) (wS_r1 hW) (hW.rowb (by omega)) (c_putAll (by omega) hW (r := 121) (r2 := 122) (by omega) (by omega) (by omega) (f + 157) (by omega) (show _ + ((pth st t ((st.2.1 (st.2.2.1 t i) 2))).length : Int) ≤ (X7.length : Int) by omega)) ?_
      intro hh17 hW
      have hW : WC K hh17 g (wS st (ovl X7 (f + 157) (pth st t ((st.2.1 (st.2.2.1 t i) 2)))) (pth st t ((st.2.1 (st.2.2.1 t i) 2))) b) cb sb := by
        rw [wS_R1] at hW
        exact hW
      have hx8 : (ovl X7 (f + 157) (pth st t ((st.2.1 (st.2.2.1 t i) 2)))).length = l.length := (ovl_len _ _ _).trans hx7
      generalize hX8 : ovl X7 (f + 157) (pth st t ((st.2.1 (st.2.2.1 t i) 2))) = X8 at hW hx8
      refine g_aload_n rfl rfl ?_
      refine g_get (ci := 6) (kk := 0) rfl rfl (wS_wr hW) hW.wrb rfl ?_
      refine g_iload rfl rfl ?_
      refine g_sipush (n := 257) rfl (by decide) ?_
      refine g_iadd rfl (by omega) ?_
      refine g_Vn (z := yTp_putMark) (e := 1) (A := [aI (f + 257)]) (rest := [])  rfl rfl rfl rfl rfl rfl (by omega) hW.tape hW.tapeb (c_putMark (by omega) hK hW (f + 257) (by omega) (show _ ≤ (X8.length : Int) by omega)) ?_
      intro hh18 hW
      have hW : WC K hh18 g (wS st (pmrk X8 (f + 257)) (pth st t ((st.2.1 (st.2.2.1 t i) 2))) b) cb sb := by
        rw [wS_R1] at hW
        exact hW
      have hx9 : (pmrk X8 (f + 257)).length = l.length := (pmrk_len _ _).trans hx8
      generalize hX9 : pmrk X8 (f + 257) = X9 at hW hx9
      refine g_aload_n rfl rfl ?_
      refine g_get (ci := 6) (kk := 0) rfl rfl (wS_wr hW) hW.wrb rfl ?_
      refine g_iload rfl rfl ?_
      refine g_sipush (n := 329) rfl (by decide) ?_
      refine g_iadd rfl (by omega) ?_
      refine g_bipush (n := 7) rfl (by decide) ?_
      refine g_iconst (n := 0) rfl (by decide) ?_
      refine g_Vn (z := yTp_putOctal) (e := 1) (A := [aI 0, aI 7, aI (f + 329)]) (rest := [])  rfl rfl rfl rfl rfl rfl (by omega) hW.tape hW.tapeb (c_putOctal (by omega) hW (f + 329) (0) 7 (by omega) (by omega) (show _ < (X9.length : Int) by omega) (by omega) (by omega)) ?_
      intro hh19 hW
      have hW : WC K hh19 g (wS st (poct X9 (f + 329) 7 (0)) (pth st t ((st.2.1 (st.2.2.1 t i) 2))) b) cb sb := by
        rw [wS_R1] at hW
        exact hW
      have hx10 : (poct X9 (f + 329) 7 (0)).length = l.length := (poct_len _ _ _ _).trans hx9
      generalize hX10 : poct X9 (f + 329) 7 (0) = X10 at hW hx10
      refine g_aload_n rfl rfl ?_
      refine g_get (ci := 6) (kk := 0) rfl rfl (wS_wr hW) hW.wrb rfl ?_
      refine g_iload rfl rfl ?_
      refine g_sipush (n := 337) rfl (by decide) ?_
      refine g_iadd rfl (by omega) ?_
      refine g_bipush (n := 7) rfl (by decide) ?_
      refine g_iconst (n := 0) rfl (by decide) ?_
      refine g_Vn (z := yTp_putOctal) (e := 1) (A := [aI 0, aI 7, aI (f + 337)]) (rest := [])  rfl rfl rfl rfl rfl rfl (by omega) hW.tape hW.tapeb (c_putOctal (by omega) hW (f + 337) (0) 7 (by omega) (by omega) (show _ < (X10.length : Int) by omega) (by omega) (by omega)) ?_
      intro hh20 hW
      have hW : WC K hh20 g (wS st (poct X10 (f + 337) 7 (0)) (pth st t ((st.2.1 (st.2.2.1 t i) 2))) b) cb sb := by
        rw [wS_R1] at hW
        exact hW
      have hx11 : (poct X10 (f + 337) 7 (0)).length = l.length := (poct_len _ _ _ _).trans hx10
      generalize hX11 : poct X10 (f + 337) 7 (0) = X11 at hW hx11
      refine g_aload_n rfl rfl ?_
      refine g_get (ci := 6) (kk := 0) rfl rfl (wS_wr hW) hW.wrb rfl ?_
      refine g_aload_n rfl rfl ?_
      refine g_get (ci := 6) (kk := 2) rfl rfl (wS_wr hW) hW.wrb rfl ?_
      refine g_V (z := yTp_putCheck) (e := 1) (A := [aI b]) (rest := []) (v := aI (sums X11 b 512))  rfl rfl rfl rfl rfl rfl (by omega) hW.tape hW.tapeb (c_putCheck (by omega) hW b hb (show _ ≤ (X11.length : Int) by omega)) ?_
      intro hh21 hW
      have hW : WC K hh21 g (wS st (pchk X11 b) (pth st t ((st.2.1 (st.2.2.1 t i) 2))) b) cb sb := by
        rw [wS_R1] at hW
        exact hW
      have hx12 : (pchk X11 b).length = l.length := (pchk_len _ _).trans hx11
      generalize hX12 : pchk X11 b = X12 at hW hx12
      refine g_pop rfl rfl ?_
      refine g_aload_n rfl rfl ?_
      refine g_dup rfl rfl ?_
      refine g_get (ci := 6) (kk := 2) rfl rfl (wS_wr hW) hW.wrb rfl ?_
      refine g_iconst (n := 1) rfl (by decide) ?_
      refine g_iadd rfl (by omega) ?_
      refine g_put (ci := 6) (kk := 2) (fs' := [aR (g 530), aR (g 122), aI (b + 1)]) rfl rfl (wS_wr hW) hW.wrb (Nat.le_of_ble_eq_true rfl) rfl (by decide) rfl ?_
      generalize hg_hh22 : hput hh21 (g 531) (eO 6 [aR (g 530), aR (g 122), aI (b + 1)]) = hh22
      have hW := wS_setb hW (b + 1)
      rw [hg_hh22] at hW
      have e : hdrL st t i l b = X12 := by
        unfold hdrL hd3 hd2 hd1
        rw [hk3, hf, hX1, hX2, hX3, hX4, hX5, hX6, hX7, hX8, hX9, hX10, hX11, hX12]
      rw [e]
      exact r_v rfl rfl ⟨_, hW⟩
  · skip
    have hk2 : (st.2.1 (st.2.2.1 t i) 0) = 2 := c9
    have hbl := hbb.2.1 hk2
    have hk3 : ∀ (a b c : List Int), (if (st.2.1 (st.2.2.1 t i) 0) = 2 then a else if (st.2.1 (st.2.2.1 t i) 0) = 3 then b else c) = a := fun a b c => if_pos hk2
    refine g_aload_n rfl rfl ?_
    refine g_get (ci := 6) (kk := 0) rfl rfl (wS_wr hW) hW.wrb rfl ?_
    refine g_get (ci := 3) (kk := 0) rfl rfl hW.tape hW.tapeb rfl ?_
    refine g_iload rfl rfl ?_
    refine g_sipush (n := 157) rfl (by decide) ?_
    refine g_iadd rfl (by omega) ?_
    refine g_aload_n rfl rfl ?_
    refine g_get (ci := 0) (kk := 1) rfl rfl (wS_node hW hpm) (hW.nodeb hpm) rfl ?_
    have hW0 := hW
    refine g_Vn (z := yRw_putAll) (e := 1) (A := [aR (g (2 * st.2.2.1 t i + 1)), aI (f + 157)]) (rest := [])  rfl rfl rfl rfl rfl rfl (by omega) (wS_r1 hW) (hW.rowb (by omega)) (c_putAll (by omega) hW (r := 121) (r2 := 2 * st.2.2.1 t i + 1) (by omega) (by omega) (by omega) (f + 157) (by omega) (by rw [wS_bd hW hpm]; show _ ≤ (X7.length : Int); omega)) ?_
    intro hh23 hW
    have hW : WC K hh23 g (wS st (ovl X7 (f + 157) ((st.1 (2 * st.2.2.1 t i + 1)))) (pth st t i) b) cb sb := by
      rw [wS_bd hW0 hpm, wS_R1] at hW
      exact hW
    have hx8 : (ovl X7 (f + 157) ((st.1 (2 * st.2.2.1 t i + 1)))).length = l.length := (ovl_len _ _ _).trans hx7
    generalize hX8 : ovl X7 (f + 157) ((st.1 (2 * st.2.2.1 t i + 1))) = X8 at hW hx8
    refine g_aload_n rfl rfl ?_
    refine g_get (ci := 0) (kk := 2) rfl rfl (wS_node hW hpm) (hW.nodeb hpm) rfl ?_
    refine g_iconst (n := 3) rfl (by decide) ?_
    refine g_icmpne rfl rfl (fun c24 => ?_) (fun c => absurd c (by omega))
    refine g_aload_n rfl rfl ?_
    refine g_get (ci := 6) (kk := 0) rfl rfl (wS_wr hW) hW.wrb rfl ?_
    refine g_iload rfl rfl ?_
    refine g_sipush (n := 257) rfl (by decide) ?_
    refine g_iadd rfl (by omega) ?_
    refine g_Vn (z := yTp_putMark) (e := 1) (A := [aI (f + 257)]) (rest := [])  rfl rfl rfl rfl rfl rfl (by omega) hW.tape hW.tapeb (c_putMark (by omega) hK hW (f + 257) (by omega) (show _ ≤ (X8.length : Int) by omega)) ?_
    intro hh25 hW
    have hW : WC K hh25 g (wS st (pmrk X8 (f + 257)) (pth st t i) b) cb sb := by
      rw [wS_R1] at hW
      exact hW
    have hx9 : (pmrk X8 (f + 257)).length = l.length := (pmrk_len _ _).trans hx8
    generalize hX9 : pmrk X8 (f + 257) = X9 at hW hx9
    refine g_aload_n rfl rfl ?_
    refine g_get (ci := 6) (kk := 0) rfl rfl (wS_wr hW) hW.wrb rfl ?_
    refine g_iload rfl rfl ?_
    refine g_sipush (n := 329) rfl (by decide) ?_
    refine g_iadd rfl (by omega) ?_
    refine g_bipush (n := 7) rfl (by decide) ?_
    refine g_iconst (n := 0) rfl (by decide) ?_
    refine g_Vn (z := yTp_putOctal) (e := 1) (A := [aI 0, aI 7, aI (f + 329)]) (rest := [])  rfl rfl rfl rfl rfl rfl (by omega) hW.tape hW.tapeb (c_putOctal (by omega) hW (f + 329) (0) 7 (by omega) (by omega) (show _ < (X9.length : Int) by omega) (by omega) (by omega)) ?_
    intro hh26 hW
    have hW : WC K hh26 g (wS st (poct X9 (f + 329) 7 (0)) (pth st t i) b) cb sb := by
      rw [wS_R1] at hW
      exact hW
    have hx10 : (poct X9 (f + 329) 7 (0)).length = l.length := (poct_len _ _ _ _).trans hx9
    generalize hX10 : poct X9 (f + 329) 7 (0) = X10 at hW hx10
    refine g_aload_n rfl rfl ?_
    refine g_get (ci := 6) (kk := 0) rfl rfl (wS_wr hW) hW.wrb rfl ?_
    refine g_iload rfl rfl ?_
    refine g_sipush (n := 337) rfl (by decide) ?_
    refine g_iadd rfl (by omega) ?_
    refine g_bipush (n := 7) rfl (by decide) ?_
    refine g_iconst (n := 0) rfl (by decide) ?_
    refine g_Vn (z := yTp_putOctal) (e := 1) (A := [aI 0, aI 7, aI (f + 337)]) (rest := [])  rfl rfl rfl rfl rfl rfl (by omega) hW.tape hW.tapeb (c_putOctal (by omega) hW (f + 337) (0) 7 (by omega) (by omega) (show _ < (X10.length : Int) by omega) (by omega) (by omega)) ?_
    intro hh27 hW
    have hW : WC K hh27 g (wS st (poct X10 (f + 337) 7 (0)) (pth st t i) b) cb sb := by
      rw [wS_R1] at hW
      exact hW
    have hx11 : (poct X10 (f + 337) 7 (0)).length = l.length := (poct_len _ _ _ _).trans hx10
    generalize hX11 : poct X10 (f + 337) 7 (0) = X11 at hW hx11
    refine g_aload_n rfl rfl ?_
    refine g_get (ci := 6) (kk := 0) rfl rfl (wS_wr hW) hW.wrb rfl ?_
    refine g_aload_n rfl rfl ?_
    refine g_get (ci := 6) (kk := 2) rfl rfl (wS_wr hW) hW.wrb rfl ?_
    refine g_V (z := yTp_putCheck) (e := 1) (A := [aI b]) (rest := []) (v := aI (sums X11 b 512))  rfl rfl rfl rfl rfl rfl (by omega) hW.tape hW.tapeb (c_putCheck (by omega) hW b hb (show _ ≤ (X11.length : Int) by omega)) ?_
    intro hh28 hW
    have hW : WC K hh28 g (wS st (pchk X11 b) (pth st t i) b) cb sb := by
      rw [wS_R1] at hW
      exact hW
    have hx12 : (pchk X11 b).length = l.length := (pchk_len _ _).trans hx11
    generalize hX12 : pchk X11 b = X12 at hW hx12
    refine g_pop rfl rfl ?_
    refine g_aload_n rfl rfl ?_
    refine g_dup rfl rfl ?_
    refine g_get (ci := 6) (kk := 2) rfl rfl (wS_wr hW) hW.wrb rfl ?_
    refine g_iconst (n := 1) rfl (by decide) ?_
    refine g_iadd rfl (by omega) ?_
    refine g_put (ci := 6) (kk := 2) (fs' := [aR (g 530), aR (g 122), aI (b + 1)]) rfl rfl (wS_wr hW) hW.wrb (Nat.le_of_ble_eq_true rfl) rfl (by decide) rfl ?_
    generalize hg_hh29 : hput hh28 (g 531) (eO 6 [aR (g 530), aR (g 122), aI (b + 1)]) = hh29
    have hW := wS_setb hW (b + 1)
    rw [hg_hh29] at hW
    have e : hdrL st t i l b = X12 := by
      unfold hdrL hd3 hd2 hd1
      rw [hk3, hf, hX1, hX2, hX3, hX4, hX5, hX6, hX7, hX8, hX9, hX10, hX11, hX12]
    rw [e]
    exact r_v rfl rfl ⟨_, hW⟩
theorem pe_loop (hK : KOK K) (hT : TI st t) (ht : t < 2) (hte : ∀ i, 0 < i → i < (st.2.2.2.1 t) → tel st t i) (hard : Int) (hb01 : hard = 0 ∨ hard = 1) : ∀ (n k : Nat) (l p : List Int) (b : Int) (h : AH), k + 1 + n = (st.2.2.2.1 t) → 0 ≤ b → (b + rsF st t hard n (k + 1)) * 512 ≤ l.length → WC K h g (wS st l p b) cb sb → Go (d + 5) yWr_putEntries 5 [aR (g 531), aR (g (500 + t)), aI hard, aI (sqX st t k : Int), aI ((k + 1 : Nat) : Int)] [] h (RV none (fun h2 => ∃ p', WC K h2 g (wS st (peF st t hard n (k + 1) (l, b)).1 p' (peF st t hard n (k + 1) (l, b)).2) cb sb)) := by
  have hc := hT.c
  intro n
  induction n with
  | zero =>
    intro k l p b h hk hb hl hW
    refine g_iload rfl rfl ?_
    refine g_aload_n rfl rfl ?_
    refine g_get (ci := 4) (kk := 1) rfl rfl (wS_tree hW ht) (hW.treeb ht) rfl ?_
    refine g_icmpge rfl rfl (fun c1 => ?_) (fun c => absurd c (by omega))
    exact r_v rfl rfl ⟨_, hW⟩
  | succ n ih =>
    intro k l p b h hk hb hl hW
    obtain ⟨s1, s2, s3⟩ := hT.seq.1 k (by omega)
    obtain ⟨u1, u2, u3⟩ := hT.seq.1 (k + 1) (by omega)
    have u0 := u3 (by omega)
    have hfo := hT.seq.2.1 k (by omega)
    have hl2 := wS_l1 hW
    have hhs : hs st t (sqX st t (k + 1) : Int) := ⟨by omega, by omega⟩
    rw [show rsF st t hard (n + 1) (k + 1) = (if pz (isK st t (sqX st t (k + 1)) 3) = hard then bkn st t (sqX st t (k + 1)) else 0) + rsF st t hard n (k + 1 + 1) from rfl] at hl
    rw [show peF st t hard (n + 1) (k + 1) (l, b) = peF st t hard n (k + 1 + 1) (if pz (isK st t (sqX st t (k + 1)) 3) = hard then entW st t (sqX st t (k + 1)) (l, b) else (l, b)) from rfl]
    generalize hx : sqX st t (k + 1) = x at *
    have hpm : st.2.2.1 t x < 60 := hW.pm ht (by omega)
    have hcl := cln_le hT u1
    have hbk : bkn st t x = 1 + (cln st t x + 511) / 512 := rfl
    refine g_iload rfl rfl ?_
    refine g_aload_n rfl rfl ?_
    refine g_get (ci := 4) (kk := 1) rfl rfl (wS_tree hW ht) (hW.treeb ht) rfl ?_
    refine g_icmpge rfl rfl (fun c => absurd c (by omega)) (fun c1 => ?_)
    refine g_iload_n rfl rfl ?_
    refine g_iconst (n := -1) rfl (by decide) ?_
    refine g_icmpeq rfl rfl (fun c => absurd c (by omega)) (fun c2 => ?_)
    refine g_aload_n rfl rfl ?_
    refine g_iload_n rfl rfl ?_
    refine g_V (z := yTr_follower) (e := 1) (A := [aI ((sqX st t k : Int))]) (rest := []) (v := aI ((x : Int))) (P := fun h2 => h2 = h) rfl rfl rfl rfl rfl rfl (by omega) (wS_tree hW ht) (hW.treeb ht) (hfo ▸ w_follower (by omega) hT hW ht (sqX st t k : Int)) ?_
    intro hh9 he9
    rw [he9]
    clear he9 hh9
    refine g_istore_n (L' := [aR (g 531), aR (g (500 + t)), aI hard, aI ((x : Int)), aI (((k + 1 : Nat) : Int))]) rfl rfl ?_
    refine g_aload_n rfl rfl ?_
    refine g_iload_n rfl rfl ?_
    refine g_V (z := yTr_has) (e := 1) (A := [aI ((x : Int))]) (rest := []) (v := aI (pz (hs st t (x : Int)))) (P := fun h2 => h2 = h) rfl rfl rfl rfl rfl rfl (by omega) (wS_tree hW ht) (hW.treeb ht) (w_has hW ht _) ?_
    intro hh9 he9
    rw [he9]
    clear he9 hh9
    refine g_ifeq rfl rfl (fun c => absurd c (by rw [pz_t hhs]; decide)) (fun c3 => ?_)
    refine g_aload_n rfl rfl ?_
    refine g_iload_n rfl rfl ?_
    refine g_iconst (n := 3) rfl (by decide) ?_
    refine g_V (z := yTr_isOfKind) (e := 1) (A := [aI 3, aI ((x : Int))]) (rest := []) (v := aI (pz (isK st t (x : Int) 3))) (P := fun h2 => h2 = h) rfl rfl rfl rfl rfl rfl (by omega) (wS_tree hW ht) (hW.treeb ht) (w_isK hW ht _ _) ?_
    intro hh9 he9
    rw [he9]
    clear he9 hh9
    refine g_iload_n rfl rfl ?_
    refine g_icmpne rfl rfl (fun c4 => ?_) (fun c4 => ?_)
    · skip
      rw [if_neg c4] at hl ⊢
      refine g_iinc (L' := [aR (g 531), aR (g (500 + t)), aI hard, aI ((x : Int)), aI (((k + 1 : Nat) : Int) + 1)]) rfl rfl (by omega) rfl ?_
      refine g_goto rfl rfl ?_
      have h9 := ih (k + 1) l _ b _ (by omega) hb (by omega) hW
      rw [hx] at h9
      exact h9
    · skip
      rw [if_pos c4] at hl ⊢
      refine g_aload_n rfl rfl ?_
      refine g_aload_n rfl rfl ?_
      refine g_iload_n rfl rfl ?_
      refine g_Vn (z := yWr_putHeader) (e := 1) (A := [aI ((x : Int)), aR (g (500 + t))]) (rest := [])  rfl rfl rfl rfl rfl rfl (by omega) (wS_wr hW) hW.wrb (c_putHeader (by omega) hK hT hW ht u0 u1 (hte x u0 u1) hb (by omega)) ?_
      intro hh5 hq
      obtain ⟨p, hW⟩ := hq
      have hlh := hdrL_len st t x l b
      refine g_aload_n rfl rfl ?_
      refine g_aload_n rfl rfl ?_
      refine g_get (ci := 4) (kk := 0) rfl rfl (wS_tree hW ht) (hW.treeb ht) rfl ?_
      refine g_iload_n rfl rfl ?_
      refine g_aald (b := g (400 + st.2.2.1 t x)) rfl (wS_arr hW ht) (by decide) (hW.arrb ht) (by omega) (nar_t (by omega)) ?_
      refine g_Vn (z := yWr_putContents) (e := 1) (A := [aR (g (400 + st.2.2.1 t x))]) (rest := [])  rfl rfl rfl rfl rfl rfl (by omega) (wS_wr hW) hW.wrb (c_putContents (by omega) hT hW ht u1 (by omega) (by omega) (by omega)) ?_
      intro hh6 hW
      refine g_iinc (L' := [aR (g 531), aR (g (500 + t)), aI hard, aI ((x : Int)), aI (((k + 1 : Nat) : Int) + 1)]) rfl rfl (by omega) rfl ?_
      refine g_goto rfl rfl ?_
      have h9 := ih (k + 1) (entW st t x (l, b)).1 _ (entW st t x (l, b)).2 _ (by omega) (by show 0 ≤ b + (bkn st t x : Int); omega) (by rw [entW_len]; show (b + (bkn st t x : Int) + _) * 512 ≤ (l.length : Int); omega) (by
        have e : (entW st t x (l, b)).2 = b + 1 + ((cln st t x + 511) / 512 : Nat) := by show b + (bkn st t x : Int) = _; omega
        rw [e]
        exact hW)
      rw [hx] at h9
      exact h9
theorem c_putEntries (hd5 : 5 ≤ d) (hK : KOK K) (hT : TI st t) (hW : WC K h g (wS st l p b) cb sb) (ht : t < 2) (hte : ∀ i, 0 < i → i < (st.2.2.2.1 t) → tel st t i) (hard : Int) (hb01 : hard = 0 ∨ hard = 1) (hb : 0 ≤ b) (hl : (b + rsF st t hard ((st.2.2.2.1 t) - 1) 1) * 512 ≤ l.length) : Cal d yWr_putEntries [aR (g 531), aR (g (500 + t)), aI hard] h (RV none (fun h2 => ∃ p', WC K h2 g (wS st (peF st t hard ((st.2.2.2.1 t) - 1) 1 (l, b)).1 p' (peF st t hard ((st.2.2.2.1 t) - 1) 1 (l, b)).2) cb sb)) := by
  obtain ⟨d, rfl⟩ : ∃ e, d = e + 5 := ⟨d - 5, by omega⟩
  have hc := hT.c
  show Go _ _ 0 [aR (g 531), aR (g (500 + t)), aI hard, none, none] [] _ _
  refine g_iconst (n := 0) rfl (by decide) ?_
  refine g_istore_n (L' := [aR (g 531), aR (g (500 + t)), aI hard, aI 0, none]) rfl rfl ?_
  refine g_iconst (n := 1) rfl (by decide) ?_
  refine g_istore (L' := [aR (g 531), aR (g (500 + t)), aI hard, aI 0, aI 1]) rfl rfl ?_
  exact pe_loop (d := d) hK hT ht hte hard hb01 ((st.2.2.2.1 t) - 1) 0 l p b h (by omega) hb hl hW
theorem rs_sum (hT : TI st t) : rsF st t 0 ((st.2.2.2.1 t) - 1) 1 + rsF st t 1 ((st.2.2.2.1 t) - 1) 1 + bkn st t 0 = sumN (bkn st t) ((st.2.2.2.1 t)) := by
  have hc := hT.c
  rw [← hT.ssum]
  have e : ∀ (n k : Nat), rsF st t 0 n k + rsF st t 1 n k + sumN (fun j => bkn st t (sqX st t j)) k = sumN (fun j => bkn st t (sqX st t j)) (k + n) := by
    intro n
    induction n with
    | zero => intro k; show 0 + 0 + sumN (fun j => bkn st t (sqX st t j)) k = sumN (fun j => bkn st t (sqX st t j)) k; omega
    | succ n ih =>
      intro k
      have h1 := ih (k + 1)
      have h2 : sumN (fun j => bkn st t (sqX st t j)) (k + 1) = sumN (fun j => bkn st t (sqX st t j)) k + bkn st t (sqX st t k) := rfl
      show (if pz (isK st t (sqX st t k) 3) = 0 then bkn st t (sqX st t k) else 0) + rsF st t 0 n (k + 1) + ((if pz (isK st t (sqX st t k) 3) = 1 then bkn st t (sqX st t k) else 0) + rsF st t 1 n (k + 1)) + _ = _
      rw [show k + (n + 1) = k + 1 + n by omega, ← h1, h2]
      rcases pz01 (isK st t (sqX st t k) 3) with q | q
      · rw [q, if_pos rfl, if_neg (by decide)]
        omega
      · rw [q, if_neg (by decide), if_pos rfl]
        omega
  have h9 := e ((st.2.2.2.1 t) - 1) 1
  rw [show 1 + ((st.2.2.2.1 t) - 1) = (st.2.2.2.1 t) by omega] at h9
  have e3 : sumN (fun j => bkn st t (sqX st t j)) 1 = bkn st t 0 := by
    show 0 + bkn st t (sqX st t 0) = _
    rw [sqX_0]
    omega
  rw [e3] at h9
  exact h9
theorem bfF_ok : ∀ (n i x : Nat), bfF st t n i x ≠ -1 → (∀ j, i ≤ j → j < i + n → tel st t j) ∧ bfF st t n i x = ((x + (sumN (bkn st t) (i + n) - sumN (bkn st t) i) : Nat) : Int) ∧ bfF st t n i x ≤ 20 ∧ sumN (bkn st t) i ≤ sumN (bkn st t) (i + n) := by
  intro n
  induction n with
  | zero =>
    intro i x h
    unfold bfF at h ⊢
    by_cases q : x ≤ 20
    · rw [if_pos q]
      exact ⟨fun j h1 h2 => by omega, by simp, by omega, Nat.le_refl _⟩
    · rw [if_neg q] at h
      exact absurd rfl h
  | succ n ih =>
    intro i x h
    by_cases q : tel st t i
    · have e : bfF st t (n + 1) i x = bfF st t n (i + 1) (x + bkn st t i) := by
        rw [bfF]
        exact @if_pos _ (Classical.propDecidable _) q _ _ _
      rw [e] at h ⊢
      obtain ⟨h1, h2, h3, h4⟩ := ih (i + 1) (x + bkn st t i) h
      have e2 : sumN (bkn st t) (i + 1) = sumN (bkn st t) i + bkn st t i := rfl
      rw [show i + (n + 1) = i + 1 + n by omega]
      refine ⟨fun j a b => ?_, by rw [h2]; omega, h3, by omega⟩
      by_cases e3 : j = i
      · subst e3; exact q
      · exact h1 j (by omega) (by omega)
    · have e : bfF st t (n + 1) i x = -1 := by
        rw [bfF]
        exact @if_neg _ (Classical.propDecidable _) q _ _ _
      exact absurd e h
noncomputable def wrT (st : CS) (t : Nat) (b : Int) : List Int × Int := peF st t 1 ((st.2.2.2.1 t) - 1) 1 (peF st t 0 ((st.2.2.2.1 t) - 1) 1 (List.replicate (b * 512).toNat 0, 0))
theorem c_putTree (hd6 : 6 ≤ d) (hK : KOK K) (hT : TI st t) (hW : WC K h g (wS st l p b) cb sb) (ht : t < 2) (hne : bfF st t ((st.2.2.2.1 t) - 1) 1 2 ≠ -1) : Cal d yWr_putTree [aR (g 531), aR (g (500 + t)), aI (bfF st t ((st.2.2.2.1 t) - 1) 1 2)] h (RV none (fun h2 => ∃ p' b', WC K h2 g (wS st (wrT st t (bfF st t ((st.2.2.2.1 t) - 1) 1 2)).1 p' b') cb sb)) := by
  have hc := hT.c
  obtain ⟨o1, o2, o3, o4⟩ := bfF_ok _ _ _ hne
  have hsum := rs_sum hT
  rw [show 1 + ((st.2.2.2.1 t) - 1) = (st.2.2.2.1 t) by omega] at o1 o2 o4
  have e1 : sumN (bkn st t) 1 = bkn st t 0 := by show 0 + bkn st t 0 = _; omega
  unfold wrT
  generalize hB : bfF st t ((st.2.2.2.1 t) - 1) 1 2 = B at *
  have hte : ∀ i, 0 < i → i < (st.2.2.2.1 t) → tel st t i := fun i h0 h1 => o1 i (by omega) h1
  show Go _ _ 0 [aR (g 531), aR (g (500 + t)), aI B] [] _ _
  refine g_aload_n rfl rfl ?_
  refine g_get (ci := 6) (kk := 0) rfl rfl (wS_wr hW) hW.wrb rfl ?_
  refine g_get (ci := 3) (kk := 0) rfl rfl hW.tape hW.tapeb rfl ?_
  refine g_iconst (n := 0) rfl (by decide) ?_
  refine g_Vn (z := yRw_resize) (e := 1) (A := [aI 0]) (rest := [])  rfl rfl rfl rfl rfl rfl (by omega) (wS_r1 hW) (hW.rowb (by omega)) (c_resize (by omega) hW (r := 121) (by omega) _) ?_
  intro hh1 hW
  have hW : WC K hh1 g (wS st [] p b) cb sb := by
    rw [rsz_0, wS_R1] at hW
    exact hW
  refine g_aload_n rfl rfl ?_
  refine g_get (ci := 6) (kk := 0) rfl rfl (wS_wr hW) hW.wrb rfl ?_
  refine g_get (ci := 3) (kk := 0) rfl rfl hW.tape hW.tapeb rfl ?_
  refine g_iload_n rfl rfl ?_
  refine g_sipush (n := 512) rfl (by decide) ?_
  refine g_imul rfl (by omega) ?_
  refine g_Vn (z := yRw_resize) (e := 1) (A := [aI (B * 512)]) (rest := [])  rfl rfl rfl rfl rfl rfl (by omega) (wS_r1 hW) (hW.rowb (by omega)) (c_resize (by omega) hW (r := 121) (by omega) _) ?_
  intro hh2 hW
  have hW : WC K hh2 g (wS st (List.replicate (B * 512).toNat (0 : Int)) p b) cb sb := by
    rw [wS_R1] at hW
    have e : rsz ((wS st [] p b).1 121) (B * 512) = (List.replicate (B * 512).toNat (0 : Int)) := by
      show rsz [] (B * 512) = _
      have hr : rcl (B * 512) = B * 512 := by unfold rcl; rw [if_neg (by omega)]; split <;> omega
      unfold rsz
      rw [hr]
      simp
    rw [e] at hW
    exact hW
  refine g_aload_n rfl rfl ?_
  refine g_iconst (n := 0) rfl (by decide) ?_
  refine g_put (ci := 6) (kk := 2) (fs' := [aR (g 530), aR (g 122), aI 0]) rfl rfl (wS_wr hW) hW.wrb (Nat.le_of_ble_eq_true rfl) rfl (by decide) rfl ?_
  generalize hg_hh3 : hput hh2 (g 531) (eO 6 [aR (g 530), aR (g 122), aI 0]) = hh3
  have hW := wS_setb hW 0
  rw [hg_hh3] at hW
  have hlz : (List.replicate (B * 512).toNat (0 : Int)).length = (B * 512).toNat := List.length_replicate
  refine g_aload_n rfl rfl ?_
  refine g_aload_n rfl rfl ?_
  refine g_iconst (n := 0) rfl (by decide) ?_
  refine g_Vn (z := yWr_putEntries) (e := 1) (A := [aI 0, aR (g (500 + t))]) (rest := [])  rfl rfl rfl rfl rfl rfl (by omega) (wS_wr hW) hW.wrb (c_putEntries (by omega) hK hT hW ht hte 0 (Or.inl rfl) (by omega) (by rw [hlz]; omega)) ?_
  intro hh4 hq
  obtain ⟨p, hW⟩ := hq
  obtain ⟨z1, z2⟩ := peF_len st t 0 ((st.2.2.2.1 t) - 1) 1 ((List.replicate (B * 512).toNat (0 : Int)), 0)
  rw [hlz] at z1
  rw [show (((List.replicate (B * 512).toNat (0 : Int)), (0 : Int)) : List Int × Int).2 = 0 from rfl] at z2
  generalize peF st t 0 ((st.2.2.2.1 t) - 1) 1 ((List.replicate (B * 512).toNat (0 : Int)), 0) = Y at *
  refine g_aload_n rfl rfl ?_
  refine g_aload_n rfl rfl ?_
  refine g_iconst (n := 1) rfl (by decide) ?_
  refine g_Vn (z := yWr_putEntries) (e := 1) (A := [aI 1, aR (g (500 + t))]) (rest := [])  rfl rfl rfl rfl rfl rfl (by omega) (wS_wr hW) hW.wrb (c_putEntries (by omega) hK hT hW ht hte 1 (Or.inr rfl) (by omega) (by omega)) ?_
  intro hh5 hq
  obtain ⟨p, hW⟩ := hq
  exact r_v rfl rfl ⟨_, _, hW⟩
end Writer2C
