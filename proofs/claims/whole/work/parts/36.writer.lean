/-! Types; Writer: where a path is cut, what can be told, how many blocks, the path's two parts. -/
def typK (k : Int) : Int := if k = 1 then 48 else if k = 3 then 49 else if k = 2 then 50 else 53
def kndT (k : Int) : Int := if k = 48 then 1 else if k = 49 then 3 else if k = 50 then 2 else if k = 53 then 0 else -1
noncomputable def cutP (l : List Int) : Int := ffst (fun j => rat l (j : Int) = 47) (l.length - 1 - (l.length - 101)) (l.length - 101)
noncomputable def cutW (l : List Int) : Int := if 100 < l.length then cutP l else -1
def tel (st : CS) (t : Nat) (i : Nat) : Prop := (100 < pln st t i → cutP (pth st t i) ≠ -1 ∧ cutP (pth st t i) ≤ 155) ∧ pln st t ((st.2.1 (st.2.2.1 t i) 2)) ≤ 100
def cln (st : CS) (t i : Nat) : Nat := if (st.2.1 (st.2.2.1 t i) 0) = 1 then ((st.1 (2 * st.2.2.1 t i + 1))).length else 0
def bkn (st : CS) (t i : Nat) : Nat := 1 + (cln st t i + 511) / 512
noncomputable def bfF (st : CS) (t : Nat) : Nat → Nat → Nat → Int
  | 0, _, x => if x ≤ 20 then (x : Int) else -1
  | n + 1, i, x => @ite Int (tel st t i) (Classical.propDecidable _) (bfF st t n (i + 1) (x + bkn st t i)) (-1)
def wS (st : CS) (l p : List Int) (b : Int) : CS := (fun r => if r = 121 then l else if r = 122 then p else st.1 r, st.2.1, st.2.2.1, st.2.2.2.1, st.2.2.2.2.1, va_up st.2.2.2.2.2 2 b)
theorem wS_R1 (st : CS) (l p l' : List Int) (b : Int) : uR (wS st l p b) 121 l' = wS st l' p b := by
  unfold uR wS
  simp only [Prod.mk.injEq, and_true]
  funext r
  unfold va_up
  by_cases h : r = 121 <;> simp [h]
theorem wS_R2 (st : CS) (l p p' : List Int) (b : Int) : uR (wS st l p b) 122 p' = wS st l p' b := by
  unfold uR wS
  simp only [Prod.mk.injEq, and_true]
  funext r
  unfold va_up
  by_cases h : r = 122
  · simp [h]
  · by_cases h1 : r = 121 <;> simp [h, h1]
theorem wS_M (st : CS) (l p : List Int) (b b' : Int) : uM (wS st l p b) 2 b' = wS st l p b' := by
  unfold uM wS
  simp only [Prod.mk.injEq, true_and]
  funext r
  unfold va_up
  by_cases h : r = 2 <;> simp [h]
theorem wS_self (st : CS) : wS st (st.1 121) (st.1 122) (st.2.2.2.2.2 2) = st := by
  have e1 : (fun r => if r = 121 then st.1 121 else if r = 122 then st.1 122 else st.1 r) = st.1 := by
    funext r
    by_cases h : r = 121
    · simp [h]
    · by_cases h2 : r = 122 <;> simp [h2]
      intro h3
      exact absurd h3 h
  have e2 : va_up st.2.2.2.2.2 2 (st.2.2.2.2.2 2) = st.2.2.2.2.2 := by
    funext r
    unfold va_up
    split
    · rename_i h; rw [h]
    · rfl
  unfold wS
  rw [e1, e2]
theorem wS_vq {st : CS} {t : Nat} (l p : List Int) (b : Int) (hs : shp st) (ht : t < 2) : VQ st (wS st l p b) t := by
  refine ⟨rfl, fun i hi => ⟨fun k _ => rfl, ?_, ?_⟩⟩
  · have := hs.1 t i ht (by have := (hs.2.2.1 t ht).2; omega)
    show (if 2 * st.2.2.1 t i = 121 then l else if 2 * st.2.2.1 t i = 122 then p else st.1 (2 * st.2.2.1 t i)) = _
    rw [if_neg (by omega), if_neg (by omega)]
  · have := hs.1 t i ht (by have := (hs.2.2.1 t ht).2; omega)
    show (if 2 * st.2.2.1 t i + 1 = 121 then l else if 2 * st.2.2.1 t i + 1 = 122 then p else st.1 (2 * st.2.2.1 t i + 1)) = _
    rw [if_neg (by omega), if_neg (by omega)]
theorem ffst_lt {p : Nat → Prop} {n i : Nat} (h : ffst p n i ≠ -1) : (i : Int) ≤ ffst p n i ∧ ffst p n i < i + n := by
  rcases ffst_r p n i with q | q
  · exact absurd q h
  · exact q
theorem cutP_r {l : List Int} (h : cutP l ≠ -1) : ((l.length - 101 : Nat) : Int) ≤ cutP l ∧ cutP l < l.length := by
  have := ffst_lt h
  unfold cutP
  omega
theorem upl_len {st : CS} {t : Nat} (hT : TI st t) : ∀ (n : Nat) (a : Int), (upl st t n a).length ≤ 101 * n := by
  intro n
  induction n with
  | zero => intro a; exact Nat.le_refl _
  | succ n ih =>
    intro a
    unfold upl
    by_cases h : 0 < a ∧ a < (st.2.2.2.1 t)
    · rw [if_pos h, List.length_append, List.length_append]
      have h1 := ih ((st.2.1 (st.2.2.1 t a.toNat) 1))
      have h2 := (hT.n a.toNat (by omega) (by omega)).2.1
      have h3 : ((if n + 1 < 30 then [47] else [] : List Int)).length ≤ 1 := by split <;> simp
      omega
    · rw [if_neg h]
      simp
theorem TI.pl {st : CS} {t : Nat} (hT : TI st t) (i : Int) : (pth st t i).length ≤ 3031 := by
  unfold pth
  rw [List.length_append]
  have h1 := upl_len hT 30 i
  by_cases h : isK st t i 0
  · rw [@if_pos _ (Classical.propDecidable _) h]
    simp
    omega
  · rw [@if_neg _ (Classical.propDecidable _) h]
    simp
    omega
section WriterC
variable {K : KE} {h : AH} {g : Nat → Nat} {st : CS} {cb sb : Nat} {d t : Nat} {l p : List Int} {b : Int}
theorem WC.wr (hW : WC K h g st cb sb) : h.1 (g 531) = some (eO 6 [aR (g 530), aR (g 122), aI (st.2.2.2.2.2 2)]) := hW.obj dm_531 (by omega)
theorem WC.wrb (hW : WC K h g st cb sb) : h.2.2.2.1 ≤ g 531 := hW.objb dm_531 (by omega)
theorem wS_wr (hW : WC K h g (wS st l p b) cb sb) : h.1 (g 531) = some (eO 6 [aR (g 530), aR (g 122), aI b]) := hW.wr
theorem wS_r1 (hW : WC K h g (wS st l p b) cb sb) : h.1 (g 121) = some (eO 2 [aR (hW.choose 121).1, aI (l.length : Int)]) := hW.row (by omega)
theorem wS_r2 (hW : WC K h g (wS st l p b) cb sb) : h.1 (g 122) = some (eO 2 [aR (hW.choose 122).1, aI (p.length : Int)]) := hW.row (by omega)
theorem wS_tree (hW : WC K h g (wS st l p b) cb sb) (ht : t < 2) : h.1 (g (500 + t)) = some (eO 4 [aR (g (510 + t)), aI ((st.2.2.2.1 t)), aR (g (520 + t))]) := hW.tree ht
theorem wS_arr (hW : WC K h g (wS st l p b) cb sb) (ht : t < 2) : h.1 (g (510 + t)) = some (eQ 3 30 (nar g (st.2.2.1 t))) := hW.arr ht
theorem wS_node (hW : WC K h g (wS st l p b) cb sb) {j : Nat} (hj : j < 60) : h.1 (g (400 + j)) = some (eO 0 [aR (g (2 * j)), aR (g (2 * j + 1)), aI (st.2.1 j 0), aI (st.2.1 j 1), aI (st.2.1 j 2), aI (st.2.1 j 3), aI (st.2.1 j 4), aI (st.2.1 j 5)]) := hW.node hj
theorem wS_shp (hW : WC K h g (wS st l p b) cb sb) : shp st := by
  obtain ⟨q1, q2, q3, q4⟩ := hW.shq
  exact ⟨q1, q2, q3, q4⟩
theorem wS_l1 (hW : WC K h g (wS st l p b) cb sb) : l.length ≤ 10240 := hW.len (r := 121) (by omega)
theorem wS_l2 (hW : WC K h g (wS st l p b) cb sb) : p.length ≤ 10240 := hW.len (r := 122) (by omega)
theorem wS_bd (hW : WC K h g (wS st l p b) cb sb) {j : Nat} (hj : j < 60) : (wS st l p b).1 (2 * j + 1) = st.1 (2 * j + 1) := by
  show (if 2 * j + 1 = 121 then l else if 2 * j + 1 = 122 then p else st.1 (2 * j + 1)) = _
  rw [if_neg (by omega), if_neg (by omega)]
theorem wS_rb (hW : WC K h g (wS st l p b) cb sb) {j : Nat} (hj : j < 60) : h.1 (g (2 * j + 1)) = some (eO 2 [aR (hW.choose (2 * j + 1)).1, aI ((st.1 (2 * j + 1)).length : Int)]) := by
  have := hW.row (r := 2 * j + 1) (by omega)
  rw [wS_bd hW hj] at this
  exact this
/-- what is asked of a tree that looks alike -/
theorem w_spellPath (hd2 : 2 ≤ d) (hT : TI st t) (hW : WC K h g (wS st l p b) cb sb) (ht : t < 2) (i : Int) : Cal d yTr_spellPath [aR (g (500 + t)), aI i, aR (g 122)] h (RV none (fun h2 => WC K h2 g (wS st l (pth st t i) b) cb sb)) := by
  have v := wS_vq l p b (wS_shp hW) ht
  have k := c_spellPath hd2 hW ht (r := 122) (by omega) i (by rw [v.qpth]; have := hT.pl i; omega)
  rw [v.qpth, wS_R2] at k
  exact k
theorem w_pathLength (hd1 : 1 ≤ d) (hW : WC K h g (wS st l p b) cb sb) (ht : t < 2) (i : Int) : Cal d yTr_pathLength [aR (g (500 + t)), aI i] h (RV (some (aI (pln st t i))) (fun h2 => h2 = h)) := by
  have v := wS_vq l p b (wS_shp hW) ht
  have k := c_pathLength hd1 hW ht i
  rw [v.qpln] at k
  exact k
theorem w_follower (hd4 : 4 ≤ d) (hT : TI st t) (hW : WC K h g (wS st l p b) cb sb) (ht : t < 2) (i : Int) : Cal d yTr_follower [aR (g (500 + t)), aI i] h (RV (some (aI (fol st t i))) (fun h2 => h2 = h)) := by
  have v := wS_vq l p b (wS_shp hW) ht
  have k := c_follower hd4 hW ht i
  rw [v.qfol hT.c.1] at k
  exact k
theorem w_has (hW : WC K h g (wS st l p b) cb sb) (ht : t < 2) (i : Int) : Cal d yTr_has [aR (g (500 + t)), aI i] h (RV (some (aI (pz (hs st t i)))) (fun h2 => h2 = h)) := c_has hW ht i
theorem w_isK (hW : WC K h g (wS st l p b) cb sb) (ht : t < 2) (i k : Int) : Cal d yTr_isOfKind [aR (g (500 + t)), aI i, aI k] h (RV (some (aI (pz (isK st t i k)))) (fun h2 => h2 = h)) := c_isOfKind hW ht i k
theorem w_cln (hW : WC K h g (wS st l p b) cb sb) (ht : t < 2) {i : Nat} (hi : i < 30) : Cal d yNd_contentsLength [aR (g (400 + st.2.2.1 t i))] h (RV (some (aI (cln st t i : Int))) (fun h2 => h2 = h)) := by
  have hj : st.2.2.1 t i < 60 := hW.pm ht hi
  have k := c_contentsLength (d := d) hW hj
  rw [wS_bd hW hj] at k
  have e : (if (wS st l p b).2.1 (st.2.2.1 t i) 0 = 1 then (((st.1 (2 * st.2.2.1 t i + 1))).length : Int) else 0) = ((cln st t i : Nat) : Int) := by
    unfold cln
    show (if (st.2.1 (st.2.2.1 t i) 0) = 1 then (((st.1 (2 * st.2.2.1 t i + 1))).length : Int) else 0) = _
    split <;> rfl
  rw [e] at k
  exact k
theorem c_typeOf (k : Int) : Cal d yTt_typeOf [aI k] h (RV (some (aI (typK k))) (fun h2 => h2 = h)) := by
  show Go _ _ 0 [aI k] [] _ _
  refine g_iload_n rfl rfl ?_
  by_cases h1 : k = 1
  · subst h1
    refine g_tabIn (off := 27) (t := 28) rfl (by decide) rfl rfl ?_
    refine g_bipush (n := 48) rfl (by decide) ?_
    exact r_i rfl rfl rfl rfl
  by_cases h2 : k = 2
  · subst h2
    refine g_tabIn (off := 33) (t := 34) rfl (by decide) rfl rfl ?_
    refine g_bipush (n := 50) rfl (by decide) ?_
    exact r_i rfl rfl rfl rfl
  by_cases h3 : k = 3
  · subst h3
    refine g_tabIn (off := 30) (t := 31) rfl (by decide) rfl rfl ?_
    refine g_bipush (n := 49) rfl (by decide) ?_
    exact r_i rfl rfl rfl rfl
  refine g_tabOut (t := 37) rfl (by omega) rfl ?_
  refine g_bipush (n := 53) rfl (by decide) ?_
  exact r_i rfl rfl (by unfold typK; rw [if_neg h1, if_neg h3, if_neg h2]) rfl
theorem c_kindOf (k : Int) : Cal d yTt_kindOf [aI k] h (RV (some (aI (kndT k))) (fun h2 => h2 = h)) := by
  show Go _ _ 0 [aI k] [] _ _
  refine g_iload_n rfl rfl ?_
  by_cases h48 : k = 48
  · subst h48
    refine g_tabIn (off := 39) (t := 40) rfl (by decide) rfl rfl ?_
    refine g_iconst (n := 1) rfl (by decide) ?_
    exact r_i rfl rfl rfl rfl
  by_cases h49 : k = 49
  · subst h49
    refine g_tabIn (off := 41) (t := 42) rfl (by decide) rfl rfl ?_
    refine g_iconst (n := 3) rfl (by decide) ?_
    exact r_i rfl rfl rfl rfl
  by_cases h50 : k = 50
  · subst h50
    refine g_tabIn (off := 43) (t := 44) rfl (by decide) rfl rfl ?_
    refine g_iconst (n := 2) rfl (by decide) ?_
    exact r_i rfl rfl rfl rfl
  by_cases h51 : k = 51
  · subst h51
    refine g_tabIn (off := 47) (t := 48) rfl (by decide) rfl rfl ?_
    refine g_iconst (n := -1) rfl (by decide) ?_
    exact r_i rfl rfl rfl rfl
  by_cases h52 : k = 52
  · subst h52
    refine g_tabIn (off := 47) (t := 48) rfl (by decide) rfl rfl ?_
    refine g_iconst (n := -1) rfl (by decide) ?_
    exact r_i rfl rfl rfl rfl
  by_cases h53 : k = 53
  · subst h53
    refine g_tabIn (off := 45) (t := 46) rfl (by decide) rfl rfl ?_
    refine g_iconst (n := 0) rfl (by decide) ?_
    exact r_i rfl rfl rfl rfl
  refine g_tabOut (t := 48) rfl (by omega) rfl ?_
  refine g_iconst (n := -1) rfl (by decide) ?_
  exact r_i rfl rfl (by unfold kndT; rw [if_neg h48, if_neg h49, if_neg h50, if_neg h53]) rfl
theorem cu_loop (hW : WC K h g (wS st l p b) cb sb) : ∀ (n i : Nat), i + n = p.length - 1 → Go (d + 1) yWr_cutOfPath 17 [aR (g 531), aI i] [] h (RV (some (aI (ffst (fun j => rat p (j : Int) = 47) n i))) (fun h2 => h2 = h)) := by
  have hl := wS_l2 hW
  intro n
  induction n with
  | zero =>
    intro i hi
    refine g_iload_n rfl rfl ?_
    refine g_aload_n rfl rfl ?_
    refine g_get (ci := 6) (kk := 1) rfl rfl (wS_wr hW) hW.wrb rfl ?_
    refine g_get (ci := 2) (kk := 1) rfl rfl (wS_r2 hW) (hW.rowb (by omega)) rfl ?_
    refine g_iconst (n := 1) rfl (by decide) ?_
    refine g_isub rfl (by omega) ?_
    refine g_icmpge rfl rfl (fun c1 => ?_) (fun c => absurd c (by omega))
    refine g_iconst (n := -1) rfl (by decide) ?_
    exact r_i rfl rfl rfl rfl
  | succ n ih =>
    intro i hi
    refine g_iload_n rfl rfl ?_
    refine g_aload_n rfl rfl ?_
    refine g_get (ci := 6) (kk := 1) rfl rfl (wS_wr hW) hW.wrb rfl ?_
    refine g_get (ci := 2) (kk := 1) rfl rfl (wS_r2 hW) (hW.rowb (by omega)) rfl ?_
    refine g_iconst (n := 1) rfl (by decide) ?_
    refine g_isub rfl (by omega) ?_
    refine g_icmpge rfl rfl (fun c => absurd c (by omega)) (fun c1 => ?_)
    refine g_aload_n rfl rfl ?_
    refine g_get (ci := 6) (kk := 1) rfl rfl (wS_wr hW) hW.wrb rfl ?_
    refine g_iload_n rfl rfl ?_
    refine g_V (z := yRw_at) (e := 1) (A := [aI ((i : Int))]) (rest := []) (v := aI (rat p (i : Int))) (P := fun h2 => h2 = h) rfl rfl rfl rfl rfl rfl (by omega) (wS_r2 hW) (hW.rowb (by omega)) (c_at hW (r := 122) (by omega) _) ?_
    intro hh9 he9
    rw [he9]
    clear he9 hh9
    refine g_bipush (n := 47) rfl (by decide) ?_
    refine g_icmpne rfl rfl (fun c2 => ?_) (fun c2 => ?_)
    · skip
      rw [ffst_f c2]
      refine g_iinc (L' := [aR (g 531), aI ((i : Int) + 1)]) rfl rfl (by omega) rfl ?_
      refine g_goto rfl rfl ?_
      exact ih (i + 1) (by omega)
    · skip
      refine g_iload_n rfl rfl ?_
      exact r_i rfl rfl (ffst_t c2).symm rfl
theorem c_cutOfPath (hd1 : 1 ≤ d) (hW : WC K h g (wS st l p b) cb sb) : Cal d yWr_cutOfPath [aR (g 531)] h (RV (some (aI (cutP p))) (fun h2 => h2 = h)) := by
  obtain ⟨d, rfl⟩ : ∃ e, d = e + 1 := ⟨d - 1, by omega⟩
  have hl := wS_l2 hW
  show Go _ _ 0 [aR (g 531), none] [] _ _
  refine g_iconst (n := 0) rfl (by decide) ?_
  refine g_aload_n rfl rfl ?_
  refine g_get (ci := 6) (kk := 1) rfl rfl (wS_wr hW) hW.wrb rfl ?_
  refine g_get (ci := 2) (kk := 1) rfl rfl (wS_r2 hW) (hW.rowb (by omega)) rfl ?_
  refine g_iconst (n := 1) rfl (by decide) ?_
  refine g_isub rfl (by omega) ?_
  refine g_bipush (n := 100) rfl (by decide) ?_
  refine g_isub rfl (by omega) ?_
  refine g_max rfl rfl rfl (Nat.le_of_ble_eq_true rfl) ?_
  rw [show (if 0 ≤ (((p.length : Int)) - 1) - 100 then (((p.length : Int)) - 1) - 100 else 0) = ((p.length - 101 : Nat) : Int) from by split <;> omega]
  refine g_istore_n (L' := [aR (g 531), aI (((p.length - 101 : Nat) : Int))]) rfl rfl ?_
  exact cu_loop (d := d) hW _ _ (by omega)
theorem c_isTellable (hd3 : 3 ≤ d) (hT : TI st t) (hW : WC K h g (wS st l p b) cb sb) (ht : t < 2) (i : Nat) (hi : i < (st.2.2.2.1 t)) : Cal d yWr_isTellable [aR (g 531), aR (g (500 + t)), aI i] h (RV (some (aI (pz (tel st t i)))) (fun h2 => ∃ p', WC K h2 g (wS st l p' b) cb sb)) := by
  have hc := hT.c
  show Go _ _ 0 [aR (g 531), aR (g (500 + t)), aI i, none] [] _ _
  refine g_aload_n rfl rfl ?_
  refine g_iload_n rfl rfl ?_
  refine g_V (z := yTr_pathLength) (e := 1) (A := [aI ((i : Int))]) (rest := []) (v := aI (pln st t (i : Int))) (P := fun h2 => h2 = h) rfl rfl rfl rfl rfl rfl (by omega) (wS_tree hW ht) (hW.treeb ht) (w_pathLength (by omega) hW ht _) ?_
  intro hh9 he9
  rw [he9]
  clear he9 hh9
  refine g_bipush (n := 100) rfl (by decide) ?_
  refine g_icmple rfl rfl (fun c1 => ?_) (fun c1 => ?_)
  · skip
    have ha : 100 < pln st t (i : Int) → cutP (pth st t i) ≠ -1 ∧ cutP (pth st t i) ≤ 155 := fun q => by omega
    refine g_aload_n rfl rfl ?_
    refine g_aload_n rfl rfl ?_
    refine g_get (ci := 4) (kk := 0) rfl rfl (wS_tree hW ht) (hW.treeb ht) rfl ?_
    refine g_iload_n rfl rfl ?_
    refine g_aald (b := g (400 + st.2.2.1 t ((i : Int).toNat))) rfl (wS_arr hW ht) (by decide) (hW.arrb ht) (by omega) (nar_t (by omega)) ?_
    refine g_get (ci := 0) (kk := 4) rfl rfl (wS_node hW (hW.pm ht (by omega))) (hW.nodeb (hW.pm ht (by omega))) rfl ?_
    refine g_V (z := yTr_pathLength) (e := 1) (A := [aI ((st.2.1 (st.2.2.1 t ((i : Int).toNat)) 2))]) (rest := []) (v := aI (pln st t ((st.2.1 (st.2.2.1 t (i : Int).toNat) 2)))) (P := fun h2 => h2 = h) rfl rfl rfl rfl rfl rfl (by omega) (wS_tree hW ht) (hW.treeb ht) (w_pathLength (by omega) hW ht _) ?_
    intro hh9 he9
    rw [he9]
    clear he9 hh9
    refine g_bipush (n := 100) rfl (by decide) ?_
    refine g_icmpgt rfl rfl (fun c2 => ?_) (fun c2 => ?_)
    · skip
      have a9 : ¬ pln st t ((st.2.1 (st.2.2.1 t i) 2)) ≤ 100 := Int.not_le.mpr c2
      refine g_iconst (n := 0) rfl (by decide) ?_
      exact r_z rfl rfl (by decide) (pz_f (fun q => a9 q.2)).symm ⟨_, hW⟩
    · skip
      have a9 : pln st t ((st.2.1 (st.2.2.1 t i) 2)) ≤ 100 := c2
      refine g_iconst (n := 1) rfl (by decide) ?_
      refine g_goto rfl rfl ?_
      exact r_z rfl rfl (by decide) (pz_t ⟨ha, a9⟩).symm ⟨_, hW⟩
  · skip
    have a0 : 100 < pln st t (i : Int) := by omega
    refine g_aload_n rfl rfl ?_
    refine g_iload_n rfl rfl ?_
    refine g_aload_n rfl rfl ?_
    refine g_get (ci := 6) (kk := 1) rfl rfl (wS_wr hW) hW.wrb rfl ?_
    refine g_Vn (z := yTr_spellPath) (e := 1) (A := [aR (g 122), aI ((i : Int))]) (rest := [])  rfl rfl rfl rfl rfl rfl (by omega) (wS_tree hW ht) (hW.treeb ht) (w_spellPath (by omega) hT hW ht _) ?_
    intro hh3 hW
    refine g_aload_n rfl rfl ?_
    refine g_V (z := yWr_cutOfPath) (e := 1) (A := []) (rest := []) (v := aI (cutP (pth st t (i : Int)))) (P := fun h2 => h2 = hh3) rfl rfl rfl rfl rfl rfl (by omega) (wS_wr hW) hW.wrb (c_cutOfPath (by omega) hW) ?_
    intro hh9 he9
    rw [he9]
    clear he9 hh9
    refine g_istore_n (L' := [aR (g 531), aR (g (500 + t)), aI ((i : Int)), aI (cutP (pth st t (i : Int)))]) rfl rfl ?_
    refine g_iload_n rfl rfl ?_
    refine g_iconst (n := -1) rfl (by decide) ?_
    refine g_icmpeq rfl rfl (fun c4 => ?_) (fun c4 => ?_)
    · skip
      have ha : ¬ (cutP (pth st t (i : Int)) ≠ -1 ∧ cutP (pth st t (i : Int)) ≤ 155) := fun q => q.1 c4
      refine g_iconst (n := 0) rfl (by decide) ?_
      exact r_z rfl rfl (by decide) (pz_f (fun q => ha (q.1 a0))).symm ⟨_, hW⟩
    · skip
      refine g_iload_n rfl rfl ?_
      refine g_sipush (n := 155) rfl (by decide) ?_
      refine g_icmple rfl rfl (fun c5 => ?_) (fun c5 => ?_)
      · skip
        have ha : 100 < pln st t (i : Int) → cutP (pth st t i) ≠ -1 ∧ cutP (pth st t i) ≤ 155 := fun _ => ⟨by omega, by omega⟩
        refine g_aload_n rfl rfl ?_
        refine g_aload_n rfl rfl ?_
        refine g_get (ci := 4) (kk := 0) rfl rfl (wS_tree hW ht) (hW.treeb ht) rfl ?_
        refine g_iload_n rfl rfl ?_
        refine g_aald (b := g (400 + st.2.2.1 t ((i : Int).toNat))) rfl (wS_arr hW ht) (by decide) (hW.arrb ht) (by omega) (nar_t (by omega)) ?_
        refine g_get (ci := 0) (kk := 4) rfl rfl (wS_node hW (hW.pm ht (by omega))) (hW.nodeb (hW.pm ht (by omega))) rfl ?_
        refine g_V (z := yTr_pathLength) (e := 1) (A := [aI ((st.2.1 (st.2.2.1 t ((i : Int).toNat)) 2))]) (rest := []) (v := aI (pln st t ((st.2.1 (st.2.2.1 t (i : Int).toNat) 2)))) (P := fun h2 => h2 = hh3) rfl rfl rfl rfl rfl rfl (by omega) (wS_tree hW ht) (hW.treeb ht) (w_pathLength (by omega) hW ht _) ?_
        intro hh9 he9
        rw [he9]
        clear he9 hh9
        refine g_bipush (n := 100) rfl (by decide) ?_
        refine g_icmpgt rfl rfl (fun c6 => ?_) (fun c6 => ?_)
        · skip
          have a9 : ¬ pln st t ((st.2.1 (st.2.2.1 t i) 2)) ≤ 100 := Int.not_le.mpr c6
          refine g_iconst (n := 0) rfl (by decide) ?_
          exact r_z rfl rfl (by decide) (pz_f (fun q => a9 q.2)).symm ⟨_, hW⟩
        · skip
          have a9 : pln st t ((st.2.1 (st.2.2.1 t i) 2)) ≤ 100 := c6
          refine g_iconst (n := 1) rfl (by decide) ?_
          refine g_goto rfl rfl ?_
          exact r_z rfl rfl (by decide) (pz_t ⟨ha, a9⟩).symm ⟨_, hW⟩
      · skip
        have ha : ¬ (cutP (pth st t (i : Int)) ≠ -1 ∧ cutP (pth st t (i : Int)) ≤ 155) := fun q => by omega
        refine g_iconst (n := 0) rfl (by decide) ?_
        exact r_z rfl rfl (by decide) (pz_f (fun q => ha (q.1 a0))).symm ⟨_, hW⟩
theorem bf_loop (hT : TI st t) (ht : t < 2) : ∀ (n i x : Nat) (p : List Int) (h : AH), 0 < i → i + n = (st.2.2.2.1 t) → x ≤ 1000 * i → WC K h g (wS st l p b) cb sb → Go (d + 4) yWr_blocksFor 4 [aR (g 531), aR (g (500 + t)), aI x, aI i] [] h (RV (some (aI (bfF st t n i x))) (fun h2 => ∃ p', WC K h2 g (wS st l p' b) cb sb)) := by
  have hc := hT.c
  intro n
  induction n with
  | zero =>
    intro i x p h h0 hi hx hW
    refine g_iload_n rfl rfl ?_
    refine g_aload_n rfl rfl ?_
    refine g_get (ci := 4) (kk := 1) rfl rfl (wS_tree hW ht) (hW.treeb ht) rfl ?_
    refine g_icmpge rfl rfl (fun c1 => ?_) (fun c => absurd c (by omega))
    refine g_iload_n rfl rfl ?_
    refine g_bipush (n := 20) rfl (by decide) ?_
    refine g_icmpgt rfl rfl (fun c2 => ?_) (fun c2 => ?_)
    · skip
      refine g_iconst (n := -1) rfl (by decide) ?_
      exact r_i rfl rfl (by unfold bfF; rw [if_neg (by omega)]) ⟨_, hW⟩
    · skip
      refine g_iload_n rfl rfl ?_
      refine g_goto rfl rfl ?_
      exact r_i rfl rfl (by unfold bfF; rw [if_pos (by omega)]) ⟨_, hW⟩
  | succ n ih =>
    intro i x p h h0 hi hx hW
    have hb : ((st.1 (2 * st.2.2.1 t i + 1))).length ≤ 10240 := by
      have := hW.len (r := 2 * st.2.2.1 t i + 1) (by have : st.2.2.1 t i < 60 := hW.pm ht (by omega); omega)
      rw [wS_bd hW (j := st.2.2.1 t i) (hW.pm ht (by omega))] at this
      exact this
    have hcl : cln st t i ≤ 10240 := by unfold cln; split <;> omega
    have hbk : ((bkn st t i : Nat) : Int) = 1 + ((cln st t i : Int) + 511) / 512 := by unfold bkn; omega
    refine g_iload_n rfl rfl ?_
    refine g_aload_n rfl rfl ?_
    refine g_get (ci := 4) (kk := 1) rfl rfl (wS_tree hW ht) (hW.treeb ht) rfl ?_
    refine g_icmpge rfl rfl (fun c => absurd c (by omega)) (fun c1 => ?_)
    refine g_aload_n rfl rfl ?_
    refine g_aload_n rfl rfl ?_
    refine g_iload_n rfl rfl ?_
    refine g_V (z := yWr_isTellable) (e := 1) (A := [aI ((i : Int)), aR (g (500 + t))]) (rest := []) (v := aI (pz (tel st t i)))  rfl rfl rfl rfl rfl rfl (by omega) (wS_wr hW) hW.wrb (c_isTellable (by omega) hT hW ht i (by omega)) ?_
    intro hh2 hq
    obtain ⟨p, hW⟩ := hq
    refine g_ifne rfl rfl (fun c3 => ?_) (fun c3 => ?_)
    · skip
      have hte : tel st t i := pz_ne c3
      rw [show bfF st t (n + 1) i x = bfF st t n (i + 1) (x + bkn st t i) from by rw [bfF]; exact @if_pos _ (Classical.propDecidable _) hte _ _ _]
      refine g_iload_n rfl rfl ?_
      refine g_iconst (n := 1) rfl (by decide) ?_
      refine g_aload_n rfl rfl ?_
      refine g_get (ci := 4) (kk := 0) rfl rfl (wS_tree hW ht) (hW.treeb ht) rfl ?_
      refine g_iload_n rfl rfl ?_
      refine g_aald (b := g (400 + st.2.2.1 t ((i : Int).toNat))) rfl (wS_arr hW ht) (by decide) (hW.arrb ht) (by omega) (nar_t (by omega)) ?_
      refine g_V (z := yNd_contentsLength) (e := 1) (A := []) (rest := [aI 1, aI ((x : Int))]) (v := aI ((cln st t i : Int))) (P := fun h2 => h2 = hh2) rfl rfl rfl rfl rfl rfl (by omega) (wS_node hW (hW.pm ht (by omega))) (hW.nodeb (hW.pm ht (by omega))) (w_cln hW ht (i := i) (by omega)) ?_
      intro hh9 he9
      rw [he9]
      clear he9 hh9
      refine g_S (z := yTp_blocksOf) (e := 1) (A := [aI ((cln st t i : Int))]) (rest := [aI 1, aI ((x : Int))]) (v := aI (((cln st t i : Int) + 511) / 512)) (P := fun h2 => h2 = hh2) rfl rfl rfl rfl rfl rfl (by omega) (c_blocksOf _ (by omega) (by omega)) ?_
      intro hh9 he9
      rw [he9]
      clear he9 hh9
      refine g_iadd rfl (by omega) ?_
      refine g_iadd rfl (by omega) ?_
      refine g_istore_n (L' := [aR (g 531), aR (g (500 + t)), aI (((x : Int)) + (1 + (((cln st t i : Int) + 511) / 512))), aI ((i : Int))]) rfl rfl ?_
      refine g_iinc (L' := [aR (g 531), aR (g (500 + t)), aI (((x : Int)) + (1 + (((cln st t i : Int) + 511) / 512))), aI ((i : Int) + 1)]) rfl rfl (by omega) rfl ?_
      refine g_goto rfl rfl ?_
      have h9 := ih (i + 1) (x + bkn st t i) _ _ (by omega) (by omega) (by omega) hW
      rw [show ((x + bkn st t i : Nat) : Int) = (x : Int) + (1 + ((cln st t i : Int) + 511) / 512) from by omega] at h9
      exact h9
    · skip
      have hte : ¬ tel st t i := pz_eq c3
      refine g_iconst (n := -1) rfl (by decide) ?_
      exact r_i rfl rfl (by rw [bfF]; exact (@if_neg _ (Classical.propDecidable _) hte _ _ _).symm) ⟨_, hW⟩
theorem c_blocksFor (hd4 : 4 ≤ d) (hT : TI st t) (hW : WC K h g (wS st l p b) cb sb) (ht : t < 2) : Cal d yWr_blocksFor [aR (g 531), aR (g (500 + t))] h (RV (some (aI (bfF st t ((st.2.2.2.1 t) - 1) 1 2))) (fun h2 => ∃ p', WC K h2 g (wS st l p' b) cb sb)) := by
  obtain ⟨d, rfl⟩ : ∃ e, d = e + 4 := ⟨d - 4, by omega⟩
  have hc := hT.c
  show Go _ _ 0 [aR (g 531), aR (g (500 + t)), none, none] [] _ _
  refine g_iconst (n := 2) rfl (by decide) ?_
  refine g_istore_n (L' := [aR (g 531), aR (g (500 + t)), aI 2, none]) rfl rfl ?_
  refine g_iconst (n := 1) rfl (by decide) ?_
  refine g_istore_n (L' := [aR (g 531), aR (g (500 + t)), aI 2, aI 1]) rfl rfl ?_
  exact bf_loop (d := d) hT ht _ 1 2 _ _ (by omega) (by omega) (by omega) hW
/-- the path's two parts in a header at f -/
noncomputable def pp1 (l : List Int) (f : Int) (p : List Int) (i : Int) : List Int := oF l.length (fun j => if f + 345 ≤ j ∧ (j : Int) < f + 345 + i then p.getD (j - f - 345).toNat 0 else l.getD j 0)
noncomputable def pp2 (l : List Int) (f : Int) (p : List Int) (c i : Int) : List Int := oF l.length (fun j => if f ≤ j ∧ (j : Int) < f + (i - c - 1) then p.getD (j - f + c + 1).toNat 0 else l.getD j 0)
noncomputable def pph (l : List Int) (f : Int) (p : List Int) : List Int := pp2 (pp1 l f p (cutW p)) f p (cutW p) p.length
theorem pp1_len (l : List Int) (f : Int) (p : List Int) (i : Int) : (pp1 l f p i).length = l.length := oF_len _ _
theorem pp2_len (l : List Int) (f : Int) (p : List Int) (c i : Int) : (pp2 l f p c i).length = l.length := oF_len _ _
theorem pph_len (l : List Int) (f : Int) (p : List Int) : (pph l f p).length = l.length := by
  unfold pph
  rw [pp2_len, pp1_len]
theorem pp1_0 (l : List Int) (f : Int) (p : List Int) {i : Int} (hi : i ≤ 0) : pp1 l f p i = l := by
  refine li_ext (pp1_len _ _ _ _) (fun j hj => ?_)
  rw [pp1_len] at hj
  unfold pp1
  rw [oF_get hj, if_neg (by omega)]
theorem pp2_0 (l : List Int) (f : Int) (p : List Int) (c : Int) : pp2 l f p c (c + 1) = l := by
  refine li_ext (pp2_len _ _ _ _ _) (fun j hj => ?_)
  rw [pp2_len] at hj
  unfold pp2
  rw [oF_get hj, if_neg (by omega)]
theorem pp1_s (l : List Int) {f : Int} (p : List Int) {i : Int} (hf : 0 ≤ f) (hi : 0 ≤ i) (h1 : f + 345 + i < l.length) (hp : i < p.length) (h8 : rowR8 p) : rput (pp1 l f p i) (f + 345 + i) (rat p i) = pp1 l f p (i + 1) := by
  unfold pp1
  rw [rput_oF (by omega) (by omega), rat_in hi hp, a8_mod256 (getD_r8 h8 _)]
  refine oF_ext fun j hj => ?_
  unfold va_up
  by_cases e : j = (f + 345 + i).toNat
  · rw [if_pos e, if_pos (by omega)]
    congr 1
    omega
  · rw [if_neg e]
    dsimp only
    by_cases e2 : f + 345 ≤ j ∧ (j : Int) < f + 345 + i
    · rw [if_pos e2, if_pos (by omega)]
    · rw [if_neg e2, if_neg (by omega)]
theorem pp2_s (l : List Int) {f : Int} (p : List Int) {c i : Int} (hf : 0 ≤ f) (hc : -1 ≤ c) (hi : c + 1 ≤ i) (h1 : f + (i - c - 1) < l.length) (hp : i < p.length) (h8 : rowR8 p) : rput (pp2 l f p c i) (f + 0 + i - c - 1) (rat p i) = pp2 l f p c (i + 1) := by
  unfold pp2
  rw [rput_oF (by omega) (by omega), rat_in (by omega) hp, a8_mod256 (getD_r8 h8 _)]
  refine oF_ext fun j hj => ?_
  unfold va_up
  by_cases e : j = (f + 0 + i - c - 1).toNat
  · rw [if_pos e, if_pos (by omega)]
    congr 1
    omega
  · rw [if_neg e]
    dsimp only
    by_cases e2 : f ≤ j ∧ (j : Int) < f + (i - c - 1)
    · rw [if_pos e2, if_pos (by omega)]
    · rw [if_neg e2, if_neg (by omega)]
theorem wS_8 (hW : WC K h g (wS st l p b) cb sb) : rowR8 p := hW.r8 (r := 122) (by omega)
theorem q1_loop {Q : AO → AH → Prop} (f c : Int) (hf : 0 ≤ f) (hl : f + 512 ≤ l.length) (hl2 : l.length ≤ 10240) (hc : c ≤ 155) (hcp : c ≤ p.length) (hp2 : p.length ≤ 10240) (kk : ∀ (h : AH) (v : AV), WC K h g (wS st (pp1 l f p c) p b) cb sb → Go (d + 1) yWr_putPath 59 [aR (g 531), aI f, aI c, v] [] h Q) : ∀ (n : Nat) (i : Int) (h : AH), 0 ≤ i → (c - i).toNat ≤ n → (c ≤ 0 ∨ i ≤ c) → (c ≤ 0 → i = 0) → WC K h g (wS st (pp1 l f p i) p b) cb sb → Go (d + 1) yWr_putPath 23 [aR (g 531), aI f, aI c, aI i] [] h Q := by
  intro n
  induction n with
  | zero =>
    intro i h h0 hn hi hi0 hW
    have e : pp1 l f p i = pp1 l f p c := by
      by_cases hc0 : c ≤ 0
      · rw [pp1_0 _ _ _ hc0, hi0 hc0, pp1_0 _ _ _ (by omega)]
      · rw [show i = c by omega]
    refine g_iload_n rfl rfl ?_
    refine g_iload_n rfl rfl ?_
    refine g_icmpge rfl rfl (fun c1 => ?_) (fun c => absurd c (by omega))
    rw [e] at hW
    exact kk _ _ hW
  | succ n ih =>
    intro i h h0 hn hi hi0 hW
    by_cases hic : i < c
    · skip
      refine g_iload_n rfl rfl ?_
      refine g_iload_n rfl rfl ?_
      refine g_icmpge rfl rfl (fun c => absurd c (by omega)) (fun c1 => ?_)
      refine g_aload_n rfl rfl ?_
      refine g_get (ci := 6) (kk := 0) rfl rfl (wS_wr hW) hW.wrb rfl ?_
      refine g_get (ci := 3) (kk := 0) rfl rfl hW.tape hW.tapeb rfl ?_
      refine g_iload_n rfl rfl ?_
      refine g_sipush (n := 345) rfl (by decide) ?_
      refine g_iadd rfl (by omega) ?_
      refine g_iload_n rfl rfl ?_
      refine g_iadd rfl (by omega) ?_
      refine g_aload_n rfl rfl ?_
      refine g_get (ci := 6) (kk := 1) rfl rfl (wS_wr hW) hW.wrb rfl ?_
      refine g_iload_n rfl rfl ?_
      refine g_V (z := yRw_at) (e := 1) (A := [aI i]) (rest := [aI ((f + 345) + i), aR (g 121)]) (v := aI (rat p i)) (P := fun h2 => h2 = h) rfl rfl rfl rfl rfl rfl (by omega) (wS_r2 hW) (hW.rowb (by omega)) (c_at hW (r := 122) (by omega) _) ?_
      intro hh9 he9
      rw [he9]
      clear he9 hh9
      refine g_Vn (z := yRw_put) (e := 1) (A := [aI (rat p i), aI ((f + 345) + i)]) (rest := [])  rfl rfl rfl rfl rfl rfl (by omega) (wS_r1 hW) (hW.rowb (by omega)) (c_put hW (r := 121) (by omega) _ _) ?_
      intro hh2 hW
      rw [wS_R1] at hW
      have h8 := wS_8 hW
      have hW : WC K hh2 g (wS st (pp1 l f p (i + 1)) p b) cb sb := by
        rw [← pp1_s l p hf h0 (by omega) (by omega) h8]
        exact hW
      refine g_iinc (L' := [aR (g 531), aI f, aI c, aI (i + 1)]) rfl rfl (by omega) rfl ?_
      refine g_goto rfl rfl ?_
      exact ih (i + 1) _ (by omega) (by omega) (by omega) (by omega) hW
    · have e : pp1 l f p i = pp1 l f p c := by
        by_cases hc0 : c ≤ 0
        · rw [pp1_0 _ _ _ hc0, hi0 hc0, pp1_0 _ _ _ (by omega)]
        · rw [show i = c by omega]
      refine g_iload_n rfl rfl ?_
      refine g_iload_n rfl rfl ?_
      refine g_icmpge rfl rfl (fun c1 => ?_) (fun c => absurd c (by omega))
      rw [e] at hW
      exact kk _ _ hW
theorem q2_loop (f c : Int) (hf : 0 ≤ f) (hl : f + 512 ≤ l.length) (hl2 : l.length ≤ 10240) (hc : -1 ≤ c) (hcp : c < p.length) (hc2 : p.length ≤ c + 101) (hp2 : p.length ≤ 10240) : ∀ (n : Nat) (i : Int) (h : AH), c + 1 ≤ i → i ≤ p.length → (p.length - i).toNat ≤ n → WC K h g (wS st (pp2 l f p c i) p b) cb sb → Go (d + 1) yWr_putPath 63 [aR (g 531), aI f, aI c, aI i] [] h (RV none (fun h2 => WC K h2 g (wS st (pp2 l f p c p.length) p b) cb sb)) := by
  intro n
  induction n with
  | zero =>
    intro i h h0 hi hn hW
    obtain rfl : i = (p.length : Int) := by omega
    refine g_iload_n rfl rfl ?_
    refine g_aload_n rfl rfl ?_
    refine g_get (ci := 6) (kk := 1) rfl rfl (wS_wr hW) hW.wrb rfl ?_
    refine g_get (ci := 2) (kk := 1) rfl rfl (wS_r2 hW) (hW.rowb (by omega)) rfl ?_
    refine g_icmpge rfl rfl (fun c1 => ?_) (fun c => absurd c (by omega))
    exact r_v rfl rfl hW
  | succ n ih =>
    intro i h h0 hi hn hW
    by_cases hic : i < p.length
    · skip
      refine g_iload_n rfl rfl ?_
      refine g_aload_n rfl rfl ?_
      refine g_get (ci := 6) (kk := 1) rfl rfl (wS_wr hW) hW.wrb rfl ?_
      refine g_get (ci := 2) (kk := 1) rfl rfl (wS_r2 hW) (hW.rowb (by omega)) rfl ?_
      refine g_icmpge rfl rfl (fun c => absurd c (by omega)) (fun c1 => ?_)
      refine g_aload_n rfl rfl ?_
      refine g_get (ci := 6) (kk := 0) rfl rfl (wS_wr hW) hW.wrb rfl ?_
      refine g_get (ci := 3) (kk := 0) rfl rfl hW.tape hW.tapeb rfl ?_
      refine g_iload_n rfl rfl ?_
      refine g_iconst (n := 0) rfl (by decide) ?_
      refine g_iadd rfl (by omega) ?_
      refine g_iload_n rfl rfl ?_
      refine g_iadd rfl (by omega) ?_
      refine g_iload_n rfl rfl ?_
      refine g_isub rfl (by omega) ?_
      refine g_iconst (n := 1) rfl (by decide) ?_
      refine g_isub rfl (by omega) ?_
      refine g_aload_n rfl rfl ?_
      refine g_get (ci := 6) (kk := 1) rfl rfl (wS_wr hW) hW.wrb rfl ?_
      refine g_iload_n rfl rfl ?_
      refine g_V (z := yRw_at) (e := 1) (A := [aI i]) (rest := [aI ((((f + 0) + i) - c) - 1), aR (g 121)]) (v := aI (rat p i)) (P := fun h2 => h2 = h) rfl rfl rfl rfl rfl rfl (by omega) (wS_r2 hW) (hW.rowb (by omega)) (c_at hW (r := 122) (by omega) _) ?_
      intro hh9 he9
      rw [he9]
      clear he9 hh9
      refine g_Vn (z := yRw_put) (e := 1) (A := [aI (rat p i), aI ((((f + 0) + i) - c) - 1)]) (rest := [])  rfl rfl rfl rfl rfl rfl (by omega) (wS_r1 hW) (hW.rowb (by omega)) (c_put hW (r := 121) (by omega) _ _) ?_
      intro hh2 hW
      rw [wS_R1] at hW
      have h8 := wS_8 hW
      have hW : WC K hh2 g (wS st (pp2 l f p c (i + 1)) p b) cb sb := by
        rw [← pp2_s l p hf hc h0 (by omega) (by omega) h8]
        exact hW
      refine g_iinc (L' := [aR (g 531), aI f, aI c, aI (i + 1)]) rfl rfl (by omega) rfl ?_
      refine g_goto rfl rfl ?_
      exact ih (i + 1) _ (by omega) (by omega) (by omega) hW
    · obtain rfl : i = (p.length : Int) := by omega
      refine g_iload_n rfl rfl ?_
      refine g_aload_n rfl rfl ?_
      refine g_get (ci := 6) (kk := 1) rfl rfl (wS_wr hW) hW.wrb rfl ?_
      refine g_get (ci := 2) (kk := 1) rfl rfl (wS_r2 hW) (hW.rowb (by omega)) rfl ?_
      refine g_icmpge rfl rfl (fun c1 => ?_) (fun c => absurd c (by omega))
      exact r_v rfl rfl hW
theorem c_putPath (hd2 : 2 ≤ d) (hW : WC K h g (wS st l p b) cb sb) (f : Int) (hf : 0 ≤ f) (hl : f + 512 ≤ l.length) (hp0 : p ≠ []) (hcut : 100 < p.length → cutP p ≠ -1 ∧ cutP p ≤ 155) : Cal d yWr_putPath [aR (g 531), aI f] h (RV none (fun h2 => WC K h2 g (wS st (pph l f p) p b) cb sb)) := by
  obtain ⟨d, rfl⟩ : ∃ e, d = e + 2 := ⟨d - 2, by omega⟩
  have hl2 := wS_l1 hW
  have hp2 := wS_l2 hW
  have hp1 : 0 < p.length := List.length_pos_iff.mpr hp0
  obtain ⟨c, hc⟩ : ∃ c, cutW p = c := ⟨_, rfl⟩
  have hcr : -1 ≤ c ∧ c ≤ 155 ∧ c < p.length ∧ p.length ≤ c + 101 ∧ (p.length ≤ 100 → c = -1) := by
    unfold cutW at hc
    by_cases q : 100 < p.length
    · rw [if_pos q] at hc
      have q1 := hcut q
      have q2 := cutP_r q1.1
      omega
    · rw [if_neg q] at hc
      omega
  obtain ⟨u1, u2, u3, u4, u5⟩ := hcr
  have hW0 := hW
  rw [show pph l f p = pp2 (pp1 l f p c) f p c p.length from by unfold pph; rw [hc]]
  show Go _ _ 0 [aR (g 531), aI f, none, none] [] _ _
  refine g_aload_n rfl rfl ?_
  refine g_get (ci := 6) (kk := 1) rfl rfl (wS_wr hW) hW.wrb rfl ?_
  refine g_get (ci := 2) (kk := 1) rfl rfl (wS_r2 hW) (hW.rowb (by omega)) rfl ?_
  refine g_bipush (n := 100) rfl (by decide) ?_
  refine g_icmple rfl rfl (fun c1 => ?_) (fun c1 => ?_)
  · skip
    have hcc : c = -1 := u5 (by omega)
    refine g_iconst (n := -1) rfl (by decide) ?_
    refine g_istore_n (L' := [aR (g 531), aI f, aI (-1), none]) rfl rfl ?_
    refine g_iconst (n := 0) rfl (by decide) ?_
    refine g_istore_n (L' := [aR (g 531), aI f, aI (-1), aI 0]) rfl rfl ?_
    rw [show (-1 : Int) = c from hcc.symm]
    refine q1_loop (d := d + 1) f c hf hl hl2 u2 (by omega) hp2 (fun h v hW => ?_) c.toNat 0 _ (by omega) (by omega) (by omega) (by omega) (by rw [pp1_0 _ _ _ (by omega)]; exact hW)
    refine g_iload_n rfl rfl ?_
    refine g_iconst (n := 1) rfl (by decide) ?_
    refine g_iadd rfl (by omega) ?_
    refine g_istore_n (L' := [aR (g 531), aI f, aI c, aI (c + 1)]) rfl rfl ?_
    exact q2_loop (d := d + 1) f c hf (by rw [pp1_len]; exact hl) (by rw [pp1_len]; exact hl2) u1 u3 (by omega) hp2 (p.length - (c + 1)).toNat (c + 1) _ (by omega) (by omega) (by omega) (by rw [pp2_0]; exact hW)
  · skip
    have hcc : cutP p = c := by unfold cutW at hc; rw [if_pos (by omega)] at hc; exact hc
    refine g_aload_n rfl rfl ?_
    refine g_V (z := yWr_cutOfPath) (e := 1) (A := []) (rest := []) (v := aI (cutP p)) (P := fun h2 => h2 = h) rfl rfl rfl rfl rfl rfl (by omega) (wS_wr hW) hW.wrb (c_cutOfPath (by omega) hW) ?_
    intro hh9 he9
    rw [he9]
    clear he9 hh9
    refine g_goto rfl rfl ?_
    refine g_istore_n (L' := [aR (g 531), aI f, aI (cutP p), none]) rfl rfl ?_
    refine g_iconst (n := 0) rfl (by decide) ?_
    refine g_istore_n (L' := [aR (g 531), aI f, aI (cutP p), aI 0]) rfl rfl ?_
    rw [hcc]
    refine q1_loop (d := d + 1) f c hf hl hl2 u2 (by omega) hp2 (fun h v hW => ?_) c.toNat 0 _ (by omega) (by omega) (by omega) (by omega) (by rw [pp1_0 _ _ _ (by omega)]; exact hW)
    refine g_iload_n rfl rfl ?_
    refine g_iconst (n := 1) rfl (by decide) ?_
    refine g_iadd rfl (by omega) ?_
    refine g_istore_n (L' := [aR (g 531), aI f, aI c, aI (c + 1)]) rfl rfl ?_
    exact q2_loop (d := d + 1) f c hf (by rw [pp1_len]; exact hl) (by rw [pp1_len]; exact hl2) u1 u3 (by omega) hp2 (p.length - (c + 1)).toNat (c + 1) _ (by omega) (by omega) (by omega) (by rw [pp2_0]; exact hW)
end WriterC
