/-! Contracts of the tape's methods. -/
section ObjW
variable {K : KE} {h : AH} {g : Nat → Nat} {st : CS} {cb sb : Nat}
def hd0 : HD := fun _ => (0, 0, fun _ => 0)
theorem cel_325 {hd : HD} {c : Nat} (hc : 325 ≤ c) : cel g hd st c = cel g hd0 st c := by
  have h1 : ¬ c < 125 := by omega
  have h2 : ¬ c < 325 := by omega
  unfold cel
  simp only [if_neg h1, if_neg h2]
theorem WC.obj (hW : WC K h g st cb sb) {c : Nat} (hc : dm c) (h3 : 325 ≤ c) : h.1 (g c) = some (cel g hd0 st c) := by
  obtain ⟨hd, hW⟩ := hW
  have := (hW.1 c hc).1
  rw [ad_g (by omega), cel_325 h3] at this
  exact this
theorem WC.objb (hW : WC K h g st cb sb) {c : Nat} (hc : dm c) (h3 : 325 ≤ c) : h.2.2.2.1 ≤ g c := by
  obtain ⟨hd, hW⟩ := hW
  have := (hW.1 c hc).2.1
  rw [ad_g (by omega)] at this
  rw [hW.2.2.2.2.1]
  exact this
theorem dm_530 : dm 530 := by unfold dm; omega
theorem dm_531 : dm 531 := by unfold dm; omega
theorem dm_532 : dm 532 := by unfold dm; omega
theorem dm_533 : dm 533 := by unfold dm; omega
theorem dm_500 {t : Nat} (ht : t < 2) : dm (500 + t) := by unfold dm; omega
theorem dm_510 {t : Nat} (ht : t < 2) : dm (510 + t) := by unfold dm; omega
theorem dm_520 {t : Nat} (ht : t < 2) : dm (520 + t) := by unfold dm; omega
theorem dm_400 {j : Nat} (hj : j < 60) : dm (400 + j) := by unfold dm; omega
theorem WC.tape (hW : WC K h g st cb sb) : h.1 (g 530) = some (eO 3 [aR (g 121)]) := hW.obj dm_530 (by omega)
theorem WC.tapeb (hW : WC K h g st cb sb) : h.2.2.2.1 ≤ g 530 := hW.objb dm_530 (by omega)
theorem WC.tree (hW : WC K h g st cb sb) {t : Nat} (ht : t < 2) : h.1 (g (500 + t)) = some (eO 4 [aR (g (510 + t)), aI (st.2.2.2.1 t), aR (g (520 + t))]) := by
  rw [hW.obj (dm_500 ht) (by omega)]
  unfold cel
  rw [if_neg (by omega), if_neg (by omega), if_neg (by omega), if_pos (by omega), Nat.add_sub_cancel_left, show 500 + t + 10 = 510 + t by omega, show 500 + t + 20 = 520 + t by omega]
theorem WC.treeb (hW : WC K h g st cb sb) {t : Nat} (ht : t < 2) : h.2.2.2.1 ≤ g (500 + t) := hW.objb (dm_500 ht) (by omega)
theorem WC.arr (hW : WC K h g st cb sb) {t : Nat} (ht : t < 2) : h.1 (g (510 + t)) = some (eQ 3 30 (nar g (st.2.2.1 t))) := by
  rw [hW.obj (dm_510 ht) (by omega)]
  unfold cel
  rw [if_neg (by omega), if_neg (by omega), if_neg (by omega), if_neg (by omega), if_pos (by omega), Nat.add_sub_cancel_left]
theorem WC.arrb (hW : WC K h g st cb sb) {t : Nat} (ht : t < 2) : h.2.2.2.1 ≤ g (510 + t) := hW.objb (dm_510 ht) (by omega)
theorem WC.num (hW : WC K h g st cb sb) {t : Nat} (ht : t < 2) : h.1 (g (520 + t)) = some (eA 0 30 (st.2.2.2.2.1 t)) := by
  rw [hW.obj (dm_520 ht) (by omega)]
  unfold cel
  rw [if_neg (by omega), if_neg (by omega), if_neg (by omega), if_neg (by omega), if_neg (by omega), if_pos (by omega), Nat.add_sub_cancel_left]
theorem WC.numb (hW : WC K h g st cb sb) {t : Nat} (ht : t < 2) : h.2.2.2.1 ≤ g (520 + t) := hW.objb (dm_520 ht) (by omega)
theorem WC.node (hW : WC K h g st cb sb) {j : Nat} (hj : j < 60) : h.1 (g (400 + j)) = some (eO 0 [aR (g (2 * j)), aR (g (2 * j + 1)), aI (st.2.1 j 0), aI (st.2.1 j 1), aI (st.2.1 j 2), aI (st.2.1 j 3), aI (st.2.1 j 4), aI (st.2.1 j 5)]) := by
  rw [hW.obj (dm_400 hj) (by omega)]
  unfold cel
  rw [if_neg (by omega), if_neg (by omega), if_pos (by omega), Nat.add_sub_cancel_left]
theorem WC.nodeb (hW : WC K h g st cb sb) {j : Nat} (hj : j < 60) : h.2.2.2.1 ≤ g (400 + j) := hW.objb (dm_400 hj) (by omega)
theorem WC.shq (hW : WC K h g st cb sb) : shp st := by
  obtain ⟨hd, hW⟩ := hW
  exact hW.2.2.2.1
/-- the marks stand where the surroundings say -/
def KOK (K : KE) : Prop := K.1 K.2.2.2 ∧ K.2.1 K.2.2.2 = some (eA 1 8 mkf)
theorem WC.mark (hW : WC K h g st cb sb) (hK : KOK K) : h.1 h.2.2.2.2 = some (eA 1 8 mkf) := by
  obtain ⟨hd, hW⟩ := hW
  rw [hW.2.2.2.2.1, (hW.2.2.2.2.2.1 _ hK.1).1]
  exact hK.2
end ObjW
def zrs (l : List Int) (f t : Int) : Prop := ∀ j : Int, f ≤ j → j < t → rat l j = 0
def octs (l : List Int) (f : Int) : Nat → Int
  | 0 => 0
  | k + 1 => octs l f k * 8 + (rat l (f + k) - 48)
def octok (l : List Int) (f : Int) (n : Nat) : Prop := ∀ i : Nat, i < n → 48 ≤ rat l (f + i) ∧ rat l (f + i) ≤ 55
noncomputable def octv (l : List Int) (f : Int) (n : Nat) : Int := @ite Int (octok l f n ∧ rat l (f + n) = 0) (Classical.propDecidable _) (octs l f n) (-1)
def sums (l : List Int) (b : Int) : Nat → Int
  | 0 => 0
  | k + 1 => sums l b k + (if 148 ≤ k ∧ k < 156 then 32 else rat l (b * 512 + k))
def poct (l : List Int) (f : Int) (n : Nat) (v : Int) : List Int := oF l.length (fun j => if f ≤ j ∧ (j : Int) < f + n then 48 + v / 8 ^ (f + n - 1 - j).toNat % 8 else if (j : Int) = f + n then 0 else l.getD j 0)
def pmrk (l : List Int) (f : Int) : List Int := oF l.length (fun j => if f ≤ j ∧ (j : Int) < f + 8 then mkf (j - f).toNat else l.getD j 0)
theorem octs_r {l : List Int} {f : Int} {n : Nat} (h : octok l f n) : 0 ≤ octs l f n ∧ octs l f n < 8 ^ n := by
  induction n with
  | zero => exact (show (0 : Int) ≤ 0 ∧ (0 : Int) < 8 ^ 0 by decide)
  | succ k ih =>
    have h1 := ih (fun i hi => h i (by omega))
    have h2 := h k (by omega)
    have e : (8 : Int) ^ (k + 1) = 8 ^ k * 8 := by rw [Int.pow_succ]
    show 0 ≤ octs l f k * 8 + (rat l (f + k) - 48) ∧ octs l f k * 8 + (rat l (f + k) - 48) < 8 ^ (k + 1)
    rw [e]
    omega
theorem sums_r (l : List Int) (b : Int) (n : Nat) : -(n : Int) ≤ sums l b n ∧ sums l b n ≤ 255 * n := by
  induction n with
  | zero => exact (show -((0 : Nat) : Int) ≤ 0 ∧ (0 : Int) ≤ 255 * ((0 : Nat) : Int) by decide)
  | succ k ih =>
    have := rat_r l (b * 512 + k)
    show -((k + 1 : Nat) : Int) ≤ sums l b k + _ ∧ sums l b k + _ ≤ 255 * ((k + 1 : Nat) : Int)
    split <;> omega
theorem mkf_r (j : Nat) : 0 ≤ mkf j ∧ mkf j ≤ 127 := by
  unfold mkf
  by_cases hj : j < 8
  · have e8 : j = 0 ∨ j = 1 ∨ j = 2 ∨ j = 3 ∨ j = 4 ∨ j = 5 ∨ j = 6 ∨ j = 7 := by omega
    rcases e8 with rfl | rfl | rfl | rfl | rfl | rfl | rfl | rfl <;> exact ⟨by decide, by decide⟩
  · rw [List.getD_eq_getElem?_getD, List.getElem?_eq_none (by simp; omega)]
    exact ⟨by decide, by decide⟩
theorem pow8_le {n : Nat} (h : n ≤ 11) : (8 : Int) ^ n ≤ 8589934592 := by
  have e : (n = 0 ∨ n = 1 ∨ n = 2 ∨ n = 3 ∨ n = 4 ∨ n = 5 ∨ n = 6 ∨ n = 7 ∨ n = 8 ∨ n = 9 ∨ n = 10 ∨ n = 11) := by omega
  rcases e with rfl | rfl | rfl | rfl | rfl | rfl | rfl | rfl | rfl | rfl | rfl | rfl <;> decide
theorem lc_eq {x y : Int} (h : a_lcmp x y = 0) : x = y := by
  unfold a_lcmp at h
  split at h
  · cases h
  · split at h
    · assumption
    · cases h
theorem lc_ne {x y : Int} (h : a_lcmp x y ≠ 0) : x ≠ y := by
  intro e
  apply h
  unfold a_lcmp
  rw [if_neg (by omega), if_pos e]
theorem lc_lt {x y : Int} (h : a_lcmp x y < 0) : x < y := by
  unfold a_lcmp at h
  split at h
  · omega
  · split at h <;> omega
theorem lc_ge {x y : Int} (h : 0 ≤ a_lcmp x y) : y ≤ x := by
  unfold a_lcmp at h
  split at h
  · omega
  · split at h <;> omega
theorem lc_gt {x y : Int} (h : 0 < a_lcmp x y) : y < x := by
  unfold a_lcmp at h
  split at h
  · omega
  · split at h <;> omega
theorem lc_le {x y : Int} (h : a_lcmp x y ≤ 0) : x ≤ y := by
  unfold a_lcmp at h
  split at h
  · omega
  · split at h <;> omega
section TapeC
variable {K : KE} {h : AH} {g : Nat → Nat} {st : CS} {cb sb : Nat} {d : Nat}
theorem c_wholeBlocks (hW : WC K h g st cb sb) : Cal d yTp_wholeBlocks [aR (g 530)] h (RV (some (aI (((st.1 121).length : Int) / 512))) (fun h2 => h2 = h)) := by
  have hl := hW.len (r := 121) (by decide)
  show Go _ _ 0 [aR (g 530)] [] _ _
  refine g_aload_n rfl rfl ?_
  refine g_get (ci := 3) (kk := 0) rfl rfl hW.tape hW.tapeb rfl ?_
  refine g_get (ci := 2) (kk := 1) rfl rfl (hW.row (by decide)) (hW.rowb (by decide)) rfl ?_
  refine g_sipush (n := 512) rfl (by decide) ?_
  refine g_idiv (v := ((((st.1 121).length : Nat) : Int)) / 512) rfl (by decide) (a_div512 (by omega) (by omega)) ?_
  exact r_i rfl rfl rfl rfl
theorem c_blocksOf (n : Int) (h0 : 0 ≤ n) (h1 : n ≤ 100000) : Cal d yTp_blocksOf [aI n] h (RV (some (aI ((n + 511) / 512))) (fun h2 => h2 = h)) := by
  show Go _ _ 0 [aI n] [] _ _
  refine g_iload_n rfl rfl ?_
  refine g_sipush (n := 512) rfl (by decide) ?_
  refine g_iadd rfl (by omega) ?_
  refine g_iconst (n := 1) rfl (by decide) ?_
  refine g_isub rfl (by omega) ?_
  refine g_sipush (n := 512) rfl (by decide) ?_
  refine g_idiv (v := ((n + 512) - 1) / 512) rfl (by decide) (a_div512 (by omega) (by omega)) ?_
  exact r_i rfl rfl (by congr 1; omega) rfl
theorem iz_loop (hW : WC K h g st cb sb) (f t : Int) (ht : t ≤ 100000) : ∀ (k : Nat) (i : Int), f ≤ i → -1 ≤ i → (t - i).toNat ≤ k → (∀ j : Int, f ≤ j → j < i → rat (st.1 121) j = 0) → Go (d + 1) yTp_isZeros 2 [aR (g 530), aI f, aI t, aI i] [] h (RV (some (aI (pz (zrs (st.1 121) f t)))) (fun h2 => h2 = h)) := by
  intro k
  induction k with
  | zero =>
    intro i hi hi0 hk hp
    refine g_iload_n rfl rfl ?_
    refine g_iload_n rfl rfl ?_
    refine g_icmpge rfl rfl (fun c1 => ?_) (fun c => absurd c (by omega))
    refine g_iconst (n := 1) rfl (by decide) ?_
    exact r_z rfl rfl (by decide) (pz_t (fun j h3 h4 => hp j h3 (by omega))).symm rfl
  | succ k ih =>
    intro i hi hi0 hk hp
    refine g_iload_n rfl rfl ?_
    refine g_iload_n rfl rfl ?_
    refine g_icmpge rfl rfl (fun c1 => ?_) (fun c1 => ?_)
    · skip
      refine g_iconst (n := 1) rfl (by decide) ?_
      exact r_z rfl rfl (by decide) (pz_t (fun j h3 h4 => hp j h3 (by omega))).symm rfl
    · skip
      refine g_aload_n rfl rfl ?_
      refine g_get (ci := 3) (kk := 0) rfl rfl hW.tape hW.tapeb rfl ?_
      refine g_iload_n rfl rfl ?_
      refine g_V (z := yRw_at) (e := 1) (A := [aI i]) (rest := []) (v := aI (rat (st.1 121) i)) (P := fun h2 => h2 = h) rfl rfl rfl rfl rfl rfl (by omega) (hW.row (by decide)) (hW.rowb (by decide)) (c_at hW (by decide) _) ?_
      intro hh9 he9
      rw [he9]
      clear he9 hh9
      refine g_ifeq rfl rfl (fun c2 => ?_) (fun c2 => ?_)
      · skip
        refine g_iinc (L' := [aR (g 530), aI f, aI t, aI (i + 1)]) rfl rfl (by omega) rfl ?_
        refine g_goto rfl rfl ?_
        exact ih (i + 1) (by omega) (by omega) (by omega) (fun j h3 h4 => (Int.lt_or_le j i).elim (fun h => hp j h3 h) (fun h => by rw [show j = i by omega]; exact c2))
      · skip
        refine g_iconst (n := 0) rfl (by decide) ?_
        exact r_z rfl rfl (by decide) (pz_f (fun q => c2 (q i hi (by omega)))).symm rfl
theorem c_isZeros (hd1 : 1 ≤ d) (hW : WC K h g st cb sb) (f t : Int) (hf : -1 ≤ f) (ht : t ≤ 100000) : Cal d yTp_isZeros [aR (g 530), aI f, aI t] h (RV (some (aI (pz (zrs (st.1 121) f t)))) (fun h2 => h2 = h)) := by
  obtain ⟨d, rfl⟩ : ∃ e, d = e + 1 := ⟨d - 1, by omega⟩
  show Go _ _ 0 [aR (g 530), aI f, aI t, none] [] _ _
  refine g_iload_n rfl rfl ?_
  refine g_istore_n (L' := [aR (g 530), aI f, aI t, aI f]) rfl rfl ?_
  exact iz_loop (d := d) hW f t ht (t - f).toNat f (Int.le_refl _) hf (Nat.le_refl _) (fun j h3 h4 => by omega)
theorem c_isBlockOfZeros (hd2 : 2 ≤ d) (hW : WC K h g st cb sb) (b : Int) (h0 : 0 ≤ b) (h1 : b ≤ 100) : Cal d yTp_isBlockOfZeros [aR (g 530), aI b] h (RV (some (aI (pz (b < ((st.1 121).length : Int) / 512 ∧ zrs (st.1 121) (b * 512) (b * 512 + 512))))) (fun h2 => h2 = h)) := by
  show Go _ _ 0 [aR (g 530), aI b] [] _ _
  refine g_iload_n rfl rfl ?_
  refine g_aload_n rfl rfl ?_
  refine g_V (z := yTp_wholeBlocks) (e := 1) (A := []) (rest := [aI b]) (v := aI (((st.1 121).length : Int) / 512)) (P := fun h2 => h2 = h) rfl rfl rfl rfl rfl rfl (by omega) hW.tape hW.tapeb (c_wholeBlocks hW) ?_
  intro hh9 he9
  rw [he9]
  clear he9 hh9
  refine g_icmpge rfl rfl (fun c1 => ?_) (fun c1 => ?_)
  · skip
    refine g_iconst (n := 0) rfl (by decide) ?_
    exact r_z rfl rfl (by decide) (pz_f (fun q => by first | omega | exact pz_eq c2 q.2)).symm rfl
  · skip
    refine g_aload_n rfl rfl ?_
    refine g_iload_n rfl rfl ?_
    refine g_sipush (n := 512) rfl (by decide) ?_
    refine g_imul rfl (by omega) ?_
    refine g_iload_n rfl rfl ?_
    refine g_sipush (n := 512) rfl (by decide) ?_
    refine g_imul rfl (by omega) ?_
    refine g_sipush (n := 512) rfl (by decide) ?_
    refine g_iadd rfl (by omega) ?_
    refine g_V (z := yTp_isZeros) (e := 1) (A := [aI ((b * 512) + 512), aI (b * 512)]) (rest := []) (v := aI (pz (zrs (st.1 121) (b * 512) (b * 512 + 512)))) (P := fun h2 => h2 = h) rfl rfl rfl rfl rfl rfl (by omega) hW.tape hW.tapeb (c_isZeros (by omega) hW _ _ (by omega) (by omega)) ?_
    intro hh9 he9
    rw [he9]
    clear he9 hh9
    refine g_ifeq rfl rfl (fun c2 => ?_) (fun c2 => ?_)
    · skip
      refine g_iconst (n := 0) rfl (by decide) ?_
      exact r_z rfl rfl (by decide) (pz_f (fun q => by first | omega | exact pz_eq c2 q.2)).symm rfl
    · skip
      refine g_iconst (n := 1) rfl (by decide) ?_
      refine g_goto rfl rfl ?_
      exact r_z rfl rfl (by decide) (pz_t ⟨by omega, pz_ne c2⟩).symm rfl
theorem oc_loop (hW : WC K h g st cb sb) (f : Int) (n : Nat) (hn : n ≤ 11) (hf : 0 ≤ f) (hf2 : f ≤ 100000) : ∀ (k i : Nat) (v6 : AV), i ≤ n → n - i ≤ k → octok (st.1 121) f i → Go (d + 1) yTp_octal 5 [aR (g 530), aI f, aI n, aL (octs (st.1 121) f i), none, aI i, v6] [] h (RV (some (aL (octv (st.1 121) f n))) (fun h2 => h2 = h)) := by
  intro k
  induction k with
  | zero =>
    intro i v6 hi hk hp
    obtain rfl : i = n := by omega
    have hv : ∀ q : rat (st.1 121) (f + (i : Int)) = 0, octs (st.1 121) f i = octv (st.1 121) f i := fun q => (@if_pos _ (Classical.propDecidable _) ⟨hp, q⟩ _ _ _).symm
    have hv2 : ∀ q : rat (st.1 121) (f + (i : Int)) ≠ 0, -1 = octv (st.1 121) f i := fun q => (@if_neg _ (Classical.propDecidable _) (fun z => q z.2) _ _ _).symm
    refine g_iload rfl rfl ?_
    refine g_iload_n rfl rfl ?_
    refine g_icmpge rfl rfl (fun c1 => ?_) (fun c => absurd c (by omega))
    refine g_aload_n rfl rfl ?_
    refine g_get (ci := 3) (kk := 0) rfl rfl hW.tape hW.tapeb rfl ?_
    refine g_iload_n rfl rfl ?_
    refine g_iload_n rfl rfl ?_
    refine g_iadd rfl (by omega) ?_
    refine g_V (z := yRw_at) (e := 1) (A := [aI (f + ((i : Int)))]) (rest := []) (v := aI (rat (st.1 121) (f + (i : Int)))) (P := fun h2 => h2 = h) rfl rfl rfl rfl rfl rfl (by omega) (hW.row (by decide)) (hW.rowb (by decide)) (c_at hW (by decide) _) ?_
    intro hh9 he9
    rw [he9]
    clear he9 hh9
    refine g_ifne rfl rfl (fun c2 => ?_) (fun c2 => ?_)
    · skip
      refine g_ldc2 (v := -1) rfl rfl ?_
      exact r_l rfl rfl (hv2 c2) rfl
    · skip
      refine g_lload_n rfl rfl ?_
      refine g_goto rfl rfl ?_
      exact r_l rfl rfl (hv c2) rfl
  | succ k ih =>
    intro i v6 hi hk hp
    by_cases hin : i = n
    · subst hin
      have hv : ∀ q : rat (st.1 121) (f + (i : Int)) = 0, octs (st.1 121) f i = octv (st.1 121) f i := fun q => (@if_pos _ (Classical.propDecidable _) ⟨hp, q⟩ _ _ _).symm
      have hv2 : ∀ q : rat (st.1 121) (f + (i : Int)) ≠ 0, -1 = octv (st.1 121) f i := fun q => (@if_neg _ (Classical.propDecidable _) (fun z => q z.2) _ _ _).symm
      refine g_iload rfl rfl ?_
      refine g_iload_n rfl rfl ?_
      refine g_icmpge rfl rfl (fun c1 => ?_) (fun c => absurd c (by omega))
      refine g_aload_n rfl rfl ?_
      refine g_get (ci := 3) (kk := 0) rfl rfl hW.tape hW.tapeb rfl ?_
      refine g_iload_n rfl rfl ?_
      refine g_iload_n rfl rfl ?_
      refine g_iadd rfl (by omega) ?_
      refine g_V (z := yRw_at) (e := 1) (A := [aI (f + ((i : Int)))]) (rest := []) (v := aI (rat (st.1 121) (f + (i : Int)))) (P := fun h2 => h2 = h) rfl rfl rfl rfl rfl rfl (by omega) (hW.row (by decide)) (hW.rowb (by decide)) (c_at hW (by decide) _) ?_
      intro hh9 he9
      rw [he9]
      clear he9 hh9
      refine g_ifne rfl rfl (fun c2 => ?_) (fun c2 => ?_)
      · skip
        refine g_ldc2 (v := -1) rfl rfl ?_
        exact r_l rfl rfl (hv2 c2) rfl
      · skip
        refine g_lload_n rfl rfl ?_
        refine g_goto rfl rfl ?_
        exact r_l rfl rfl (hv c2) rfl
    · have ho := octs_r hp
      have hp8 := pow8_le (n := i) (by omega)
      have hrr := rat_r (st.1 121) (f + (i : Int))
      refine g_iload rfl rfl ?_
      refine g_iload_n rfl rfl ?_
      refine g_icmpge rfl rfl (fun c => absurd c (by omega)) (fun c1 => ?_)
      refine g_aload_n rfl rfl ?_
      refine g_get (ci := 3) (kk := 0) rfl rfl hW.tape hW.tapeb rfl ?_
      refine g_iload_n rfl rfl ?_
      refine g_iload rfl rfl ?_
      refine g_iadd rfl (by omega) ?_
      refine g_V (z := yRw_at) (e := 1) (A := [aI (f + ((i : Int)))]) (rest := []) (v := aI (rat (st.1 121) (f + (i : Int)))) (P := fun h2 => h2 = h) rfl rfl rfl rfl rfl rfl (by omega) (hW.row (by decide)) (hW.rowb (by decide)) (c_at hW (by decide) _) ?_
      intro hh9 he9
      rw [he9]
      clear he9 hh9
      refine g_istore (L' := [aR (g 530), aI f, aI ((n : Int)), aL (octs (st.1 121) f i), none, aI ((i : Int)), aI (rat (st.1 121) (f + (i : Int)))]) rfl rfl ?_
      refine g_iload rfl rfl ?_
      refine g_bipush (n := 48) rfl (by decide) ?_
      refine g_icmplt rfl rfl (fun c2 => ?_) (fun c2 => ?_)
      · skip
        refine g_ldc2 (v := -1) rfl rfl ?_
        exact r_l rfl rfl (by exact (@if_neg _ (Classical.propDecidable _) (fun z => by have := z.1 i (by omega); omega) _ _ _).symm) rfl
      · skip
        refine g_iload rfl rfl ?_
        refine g_bipush (n := 55) rfl (by decide) ?_
        refine g_icmple rfl rfl (fun c3 => ?_) (fun c3 => ?_)
        · skip
          refine g_lload_n rfl rfl ?_
          refine g_ldc2 (v := 8) rfl rfl ?_
          refine g_lmul rfl (by omega) ?_
          refine g_iload rfl rfl ?_
          refine g_bipush (n := 48) rfl (by decide) ?_
          refine g_isub rfl (by omega) ?_
          refine g_i2l rfl ?_
          refine g_ladd rfl (by omega) ?_
          refine g_lstore_n (L' := [aR (g 530), aI f, aI ((n : Int)), aL (((octs (st.1 121) f i) * 8) + ((rat (st.1 121) (f + (i : Int))) - 48)), none, aI ((i : Int)), aI (rat (st.1 121) (f + (i : Int)))]) rfl rfl ?_
          refine g_iinc (L' := [aR (g 530), aI f, aI ((n : Int)), aL (((octs (st.1 121) f i) * 8) + ((rat (st.1 121) (f + (i : Int))) - 48)), none, aI ((i : Int) + 1), aI (rat (st.1 121) (f + (i : Int)))]) rfl rfl (by omega) rfl ?_
          refine g_goto rfl rfl ?_
          exact ih (i + 1) _ (by omega) (by omega) (fun j hj => (Nat.lt_or_ge j i).elim (fun h => hp j h) (fun h => by rw [show j = i by omega]; exact ⟨by omega, by omega⟩))
        · skip
          refine g_ldc2 (v := -1) rfl rfl ?_
          exact r_l rfl rfl (by exact (@if_neg _ (Classical.propDecidable _) (fun z => by have := z.1 i (by omega); omega) _ _ _).symm) rfl
theorem c_octal (hd1 : 1 ≤ d) (hW : WC K h g st cb sb) (f : Int) (n : Nat) (hn : n ≤ 11) (hf : 0 ≤ f) (hf2 : f ≤ 100000) : Cal d yTp_octal [aR (g 530), aI f, aI (n : Int)] h (RV (some (aL (octv (st.1 121) f n))) (fun h2 => h2 = h)) := by
  obtain ⟨d, rfl⟩ : ∃ e, d = e + 1 := ⟨d - 1, by omega⟩
  show Go _ _ 0 [aR (g 530), aI f, aI (n : Int), none, none, none, none] [] _ _
  refine g_lconst (m := 0) rfl rfl ?_
  refine g_lstore_n (L' := [aR (g 530), aI f, aI ((n : Int)), aL 0, none, none, none]) rfl rfl ?_
  refine g_iconst (n := 0) rfl (by decide) ?_
  refine g_istore (L' := [aR (g 530), aI f, aI ((n : Int)), aL 0, none, aI 0, none]) rfl rfl ?_
  exact oc_loop (d := d) hW f n hn hf hf2 n 0 none (by omega) (by omega) (fun j hj => by omega)
theorem hm_loop (hK : KOK K) (hW : WC K h g st cb sb) (f : Int) (hf : 0 ≤ f) (hf2 : f ≤ 100000) : ∀ (k : Nat) (i : Int), 0 ≤ i → i ≤ 8 → (8 - i).toNat ≤ k → (∀ j : Nat, (j : Int) < i → rat (st.1 121) (f + j) = mkf j) → Go (d + 1) yTp_hasMark 2 [aR (g 530), aI f, aI i] [] h (RV (some (aI (pz (∀ j : Nat, j < 8 → rat (st.1 121) (f + j) = mkf j)))) (fun h2 => h2 = h)) := by
  intro k
  induction k with
  | zero =>
    intro i hi hi0 hk hp
    refine g_iload_n rfl rfl ?_
    refine g_gets rfl rfl ?_
    refine g_alen rfl (hW.mark hK) (by decide) ?_
    refine g_icmpge rfl rfl (fun c1 => ?_) (fun c => absurd c (by omega))
    refine g_iconst (n := 1) rfl (by decide) ?_
    exact r_z rfl rfl (by decide) (pz_t (fun j h3 => hp j (by omega))).symm rfl
  | succ k ih =>
    intro i hi hi0 hk hp
    refine g_iload_n rfl rfl ?_
    refine g_gets rfl rfl ?_
    refine g_alen rfl (hW.mark hK) (by decide) ?_
    refine g_icmpge rfl rfl (fun c1 => ?_) (fun c1 => ?_)
    · skip
      refine g_iconst (n := 1) rfl (by decide) ?_
      exact r_z rfl rfl (by decide) (pz_t (fun j h3 => hp j (by omega))).symm rfl
    · skip
      refine g_aload_n rfl rfl ?_
      refine g_get (ci := 3) (kk := 0) rfl rfl hW.tape hW.tapeb rfl ?_
      refine g_iload_n rfl rfl ?_
      refine g_iload_n rfl rfl ?_
      refine g_iadd rfl (by omega) ?_
      refine g_V (z := yRw_at) (e := 1) (A := [aI (f + i)]) (rest := []) (v := aI (rat (st.1 121) (f + i))) (P := fun h2 => h2 = h) rfl rfl rfl rfl rfl rfl (by omega) (hW.row (by decide)) (hW.rowb (by decide)) (c_at hW (by decide) _) ?_
      intro hh9 he9
      rw [he9]
      clear he9 hh9
      refine g_gets rfl rfl ?_
      refine g_iload_n rfl rfl ?_
      refine g_bald rfl (hW.mark hK) (by omega) ?_
      refine g_icmpeq rfl rfl (fun c2 => ?_) (fun c2 => ?_)
      · skip
        refine g_iinc (L' := [aR (g 530), aI f, aI (i + 1)]) rfl rfl (by omega) rfl ?_
        refine g_goto rfl rfl ?_
        exact ih (i + 1) (by omega) (by omega) (by omega) (fun j h3 => (Int.lt_or_le j i).elim (fun h => hp j h) (fun h => by rw [show j = i.toNat by omega, show ((i.toNat : Nat) : Int) = i by omega]; exact c2))
      · skip
        refine g_iconst (n := 0) rfl (by decide) ?_
        exact r_z rfl rfl (by decide) (pz_f (fun q => c2 (by have := q i.toNat (by omega); rw [show ((i.toNat : Nat) : Int) = i by omega] at this; exact this))).symm rfl
theorem c_hasMark (hd1 : 1 ≤ d) (hK : KOK K) (hW : WC K h g st cb sb) (f : Int) (hf : 0 ≤ f) (hf2 : f ≤ 100000) : Cal d yTp_hasMark [aR (g 530), aI f] h (RV (some (aI (pz (∀ j : Nat, j < 8 → rat (st.1 121) (f + j) = mkf j)))) (fun h2 => h2 = h)) := by
  obtain ⟨d, rfl⟩ : ∃ e, d = e + 1 := ⟨d - 1, by omega⟩
  show Go _ _ 0 [aR (g 530), aI f, none] [] _ _
  refine g_iconst (n := 0) rfl (by decide) ?_
  refine g_istore_n (L' := [aR (g 530), aI f, aI 0]) rfl rfl ?_
  exact hm_loop (d := d) hK hW f hf hf2 8 0 (by omega) (by omega) (by omega) (fun j h3 => by omega)
theorem sm_loop (hW : WC K h g st cb sb) (b : Int) (h0 : 0 ≤ b) (h1 : b ≤ 100) : ∀ (k i : Nat), i ≤ 512 → 512 - i ≤ k → Go (d + 1) yTp_sum 4 [aR (g 530), aI b, aI (sums (st.1 121) b i), aI i] [] h (RV (some (aI (sums (st.1 121) b 512))) (fun h2 => h2 = h)) := by
  intro k
  induction k with
  | zero =>
    intro i hi hk
    obtain rfl : i = 512 := by omega
    refine g_iload_n rfl rfl ?_
    refine g_sipush (n := 512) rfl (by decide) ?_
    refine g_icmpge rfl rfl (fun c1 => ?_) (fun c => absurd c (by decide))
    refine g_iload_n rfl rfl ?_
    exact r_i rfl rfl rfl rfl
  | succ k ih =>
    intro i hi hk
    by_cases hin : i = 512
    · subst hin
      refine g_iload_n rfl rfl ?_
      refine g_sipush (n := 512) rfl (by decide) ?_
      refine g_icmpge rfl rfl (fun c1 => ?_) (fun c => absurd c (by decide))
      refine g_iload_n rfl rfl ?_
      exact r_i rfl rfl rfl rfl
    · have hsr := sums_r (st.1 121) b i
      have hrr := rat_r (st.1 121) (b * 512 + (i : Int))
      refine g_iload_n rfl rfl ?_
      refine g_sipush (n := 512) rfl (by decide) ?_
      refine g_icmpge rfl rfl (fun c => absurd c (by omega)) (fun c1 => ?_)
      refine g_iload_n rfl rfl ?_
      refine g_iload_n rfl rfl ?_
      refine g_sipush (n := 148) rfl (by decide) ?_
      refine g_icmplt rfl rfl (fun c2 => ?_) (fun c2 => ?_)
      · skip
        refine g_aload_n rfl rfl ?_
        refine g_get (ci := 3) (kk := 0) rfl rfl hW.tape hW.tapeb rfl ?_
        refine g_iload_n rfl rfl ?_
        refine g_sipush (n := 512) rfl (by decide) ?_
        refine g_imul rfl (by omega) ?_
        refine g_iload_n rfl rfl ?_
        refine g_iadd rfl (by omega) ?_
        refine g_V (z := yRw_at) (e := 1) (A := [aI ((b * 512) + ((i : Int)))]) (rest := [aI (sums (st.1 121) b i)]) (v := aI (rat (st.1 121) (b * 512 + (i : Int)))) (P := fun h2 => h2 = h) rfl rfl rfl rfl rfl rfl (by omega) (hW.row (by decide)) (hW.rowb (by decide)) (c_at hW (by decide) _) ?_
        intro hh9 he9
        rw [he9]
        clear he9 hh9
        refine g_iadd rfl (by omega) ?_
        refine g_istore_n (L' := [aR (g 530), aI b, aI ((sums (st.1 121) b i) + (rat (st.1 121) (b * 512 + (i : Int)))), aI ((i : Int))]) rfl rfl ?_
        refine g_iinc (L' := [aR (g 530), aI b, aI ((sums (st.1 121) b i) + (rat (st.1 121) (b * 512 + (i : Int)))), aI ((i : Int) + 1)]) rfl rfl (by omega) rfl ?_
        refine g_goto rfl rfl ?_
        have h9 := ih (i + 1) (by omega) (by omega)
        rw [show sums (st.1 121) b (i + 1) = (sums (st.1 121) b i) + (rat (st.1 121) (b * 512 + (i : Int))) from by show sums (st.1 121) b i + _ = _; rw [if_neg (by omega)]] at h9
        exact h9
      · skip
        refine g_iload_n rfl rfl ?_
        refine g_sipush (n := 156) rfl (by decide) ?_
        refine g_icmpge rfl rfl (fun c3 => ?_) (fun c3 => ?_)
        · skip
          refine g_aload_n rfl rfl ?_
          refine g_get (ci := 3) (kk := 0) rfl rfl hW.tape hW.tapeb rfl ?_
          refine g_iload_n rfl rfl ?_
          refine g_sipush (n := 512) rfl (by decide) ?_
          refine g_imul rfl (by omega) ?_
          refine g_iload_n rfl rfl ?_
          refine g_iadd rfl (by omega) ?_
          refine g_V (z := yRw_at) (e := 1) (A := [aI ((b * 512) + ((i : Int)))]) (rest := [aI (sums (st.1 121) b i)]) (v := aI (rat (st.1 121) (b * 512 + (i : Int)))) (P := fun h2 => h2 = h) rfl rfl rfl rfl rfl rfl (by omega) (hW.row (by decide)) (hW.rowb (by decide)) (c_at hW (by decide) _) ?_
          intro hh9 he9
          rw [he9]
          clear he9 hh9
          refine g_iadd rfl (by omega) ?_
          refine g_istore_n (L' := [aR (g 530), aI b, aI ((sums (st.1 121) b i) + (rat (st.1 121) (b * 512 + (i : Int)))), aI ((i : Int))]) rfl rfl ?_
          refine g_iinc (L' := [aR (g 530), aI b, aI ((sums (st.1 121) b i) + (rat (st.1 121) (b * 512 + (i : Int)))), aI ((i : Int) + 1)]) rfl rfl (by omega) rfl ?_
          refine g_goto rfl rfl ?_
          have h9 := ih (i + 1) (by omega) (by omega)
          rw [show sums (st.1 121) b (i + 1) = (sums (st.1 121) b i) + (rat (st.1 121) (b * 512 + (i : Int))) from by show sums (st.1 121) b i + _ = _; rw [if_neg (by omega)]] at h9
          exact h9
        · skip
          refine g_bipush (n := 32) rfl (by decide) ?_
          refine g_goto rfl rfl ?_
          refine g_iadd rfl (by omega) ?_
          refine g_istore_n (L' := [aR (g 530), aI b, aI ((sums (st.1 121) b i) + 32), aI ((i : Int))]) rfl rfl ?_
          refine g_iinc (L' := [aR (g 530), aI b, aI ((sums (st.1 121) b i) + 32), aI ((i : Int) + 1)]) rfl rfl (by omega) rfl ?_
          refine g_goto rfl rfl ?_
          have h9 := ih (i + 1) (by omega) (by omega)
          rw [show sums (st.1 121) b (i + 1) = (sums (st.1 121) b i) + 32 from by show sums (st.1 121) b i + _ = _; rw [if_pos (by omega)]] at h9
          exact h9
theorem c_sum (hd1 : 1 ≤ d) (hW : WC K h g st cb sb) (b : Int) (h0 : 0 ≤ b) (h1 : b ≤ 100) : Cal d yTp_sum [aR (g 530), aI b] h (RV (some (aI (sums (st.1 121) b 512))) (fun h2 => h2 = h)) := by
  obtain ⟨d, rfl⟩ : ∃ e, d = e + 1 := ⟨d - 1, by omega⟩
  show Go _ _ 0 [aR (g 530), aI b, none, none] [] _ _
  refine g_iconst (n := 0) rfl (by decide) ?_
  refine g_istore_n (L' := [aR (g 530), aI b, aI 0, none]) rfl rfl ?_
  refine g_iconst (n := 0) rfl (by decide) ?_
  refine g_istore_n (L' := [aR (g 530), aI b, aI 0, aI 0]) rfl rfl ?_
  exact sm_loop (d := d) hW b h0 h1 512 0 (by omega) (by omega)
theorem c_hasCheck (hd2 : 2 ≤ d) (hW : WC K h g st cb sb) (b : Int) (h0 : 0 ≤ b) (h1 : b ≤ 100) : Cal d yTp_hasCheck [aR (g 530), aI b] h (RV (some (aI (pz (octv (st.1 121) (b * 512 + 148) 6 = sums (st.1 121) b 512 ∧ rat (st.1 121) (b * 512 + 155) = 32)))) (fun h2 => h2 = h)) := by
  have e55 : b * 512 + 156 - 1 = b * 512 + 155 := by omega
  show Go _ _ 0 [aR (g 530), aI b] [] _ _
  refine g_aload_n rfl rfl ?_
  refine g_iload_n rfl rfl ?_
  refine g_sipush (n := 512) rfl (by decide) ?_
  refine g_imul rfl (by omega) ?_
  refine g_sipush (n := 148) rfl (by decide) ?_
  refine g_iadd rfl (by omega) ?_
  refine g_bipush (n := 6) rfl (by decide) ?_
  refine g_V (z := yTp_octal) (e := 1) (A := [aI 6, aI ((b * 512) + 148)]) (rest := []) (v := aL (octv (st.1 121) (b * 512 + 148) 6)) (P := fun h2 => h2 = h) rfl rfl rfl rfl rfl rfl (by omega) hW.tape hW.tapeb (c_octal (n := 6) (by omega) hW _ (by omega) (by omega) (by omega)) ?_
  intro hh9 he9
  rw [he9]
  clear he9 hh9
  refine g_aload_n rfl rfl ?_
  refine g_iload_n rfl rfl ?_
  refine g_V (z := yTp_sum) (e := 1) (A := [aI b]) (rest := [aL (octv (st.1 121) (b * 512 + 148) 6)]) (v := aI (sums (st.1 121) b 512)) (P := fun h2 => h2 = h) rfl rfl rfl rfl rfl rfl (by omega) hW.tape hW.tapeb (c_sum (by omega) hW b h0 h1) ?_
  intro hh9 he9
  rw [he9]
  clear he9 hh9
  refine g_i2l rfl ?_
  refine g_lcmp rfl ?_
  refine g_ifne rfl rfl (fun c1 => ?_) (fun c1 => ?_)
  · skip
    have c1 := lc_ne c1
    refine g_iconst (n := 0) rfl (by decide) ?_
    exact r_z rfl rfl (by decide) (pz_f (fun q => by first | exact absurd q.1 (by assumption) | (rw [← e55] at q; exact absurd q.2 (by assumption)))).symm rfl
  · skip
    have c1 := lc_eq c1
    refine g_aload_n rfl rfl ?_
    refine g_get (ci := 3) (kk := 0) rfl rfl hW.tape hW.tapeb rfl ?_
    refine g_iload_n rfl rfl ?_
    refine g_sipush (n := 512) rfl (by decide) ?_
    refine g_imul rfl (by omega) ?_
    refine g_sipush (n := 156) rfl (by decide) ?_
    refine g_iadd rfl (by omega) ?_
    refine g_iconst (n := 1) rfl (by decide) ?_
    refine g_isub rfl (by omega) ?_
    refine g_V (z := yRw_at) (e := 1) (A := [aI (((b * 512) + 156) - 1)]) (rest := []) (v := aI (rat (st.1 121) (b * 512 + 156 - 1))) (P := fun h2 => h2 = h) rfl rfl rfl rfl rfl rfl (by omega) (hW.row (by decide)) (hW.rowb (by decide)) (c_at hW (by decide) _) ?_
    intro hh9 he9
    rw [he9]
    clear he9 hh9
    refine g_bipush (n := 32) rfl (by decide) ?_
    refine g_icmpne rfl rfl (fun c2 => ?_) (fun c2 => ?_)
    · skip
      refine g_iconst (n := 0) rfl (by decide) ?_
      exact r_z rfl rfl (by decide) (pz_f (fun q => by first | exact absurd q.1 (by assumption) | (rw [← e55] at q; exact absurd q.2 (by assumption)))).symm rfl
    · skip
      refine g_iconst (n := 1) rfl (by decide) ?_
      refine g_goto rfl rfl ?_
      exact r_z rfl rfl (by decide) (pz_t ⟨c1, by rw [← e55]; exact c2⟩).symm rfl
theorem rat_nn {l : List Int} {i : Int} (h0 : 0 ≤ i) (h1 : i < l.length) : 0 ≤ rat l i := by
  rw [rat_in h0 h1]
  omega
theorem sums_nn {l : List Int} {b : Int} (h0 : 0 ≤ b) : ∀ n : Nat, b * 512 + n ≤ l.length → 0 ≤ sums l b n := by
  intro n
  induction n with
  | zero => intro _; exact Int.le_refl _
  | succ k ih =>
    intro hk
    have h1 := ih (by omega)
    have h2 := rat_nn (l := l) (i := b * 512 + k) (by omega) (by omega)
    show 0 ≤ sums l b k + _
    split <;> omega
theorem div8 (v : Int) (c : Nat) : v / 8 ^ c / 8 = v / 8 ^ (c + 1) := by
  rw [Int.pow_succ, Int.ediv_ediv_of_nonneg (by exact Int.pow_nonneg (by decide))]
def pox (l : List Int) (f : Int) (n c : Nat) (v : Int) : List Int := oF l.length (fun j => if f + n - c ≤ j ∧ (j : Int) < f + n then 48 + v / 8 ^ (f + n - 1 - j).toNat % 8 else l.getD j 0)
theorem po_loop (f v : Int) (n : Nat) (l : List Int) (hn : n ≤ 11) (hf : 0 ≤ f) (hl : f + n < l.length) (hl2 : l.length ≤ 10240) (hv : 0 ≤ v) (hv2 : v ≤ 2147483647) : ∀ (k c : Nat) (h : AH), c ≤ n → n - c ≤ k → WC K h g (uR st 121 (pox l f n c v)) cb sb → Go (d + 1) yTp_putOctal 8 [aR (g 530), aI f, aI n, aI v, aI (v / 8 ^ c), aI ((n : Int) - 1 - c)] [] h (RV none (fun h2 => WC K h2 g (uR st 121 (poct l f n v)) cb sb)) := by
  intro k
  induction k with
  | zero =>
    intro c h hc hk hW
    obtain rfl : c = n := by omega
    refine g_iload rfl rfl ?_
    refine g_iflt rfl rfl (fun c1 => ?_) (fun c => absurd c (by omega))
    refine g_aload_n rfl rfl ?_
    refine g_get (ci := 3) (kk := 0) rfl rfl hW.tape hW.tapeb rfl ?_
    refine g_iload_n rfl rfl ?_
    refine g_iload_n rfl rfl ?_
    refine g_iadd rfl (by omega) ?_
    refine g_iconst (n := 0) rfl (by decide) ?_
    refine g_Vn (z := yRw_put) (e := 1) (A := [aI 0, aI (f + ((c : Int)))]) (rest := [])  rfl rfl rfl rfl rfl rfl (by omega) (hW.row (by decide)) (hW.rowb (by decide)) (c_put hW (by decide) _ _) ?_
    intro hh2 hW2
    rw [uR_uR, uR_get] at hW2
    have e : rput (pox l f c c v) (f + (c : Int)) 0 = poct l f c v := by
      unfold pox poct
      rw [rput_oF (by omega) (by omega)]
      refine oF_ext fun j hj => ?_
      unfold va_up
      by_cases h3 : j = (f + (c : Int)).toNat
      · rw [if_pos h3, if_neg (by omega), if_pos (by omega)]
        decide
      · rw [if_neg h3]
        dsimp only
        by_cases h4 : f ≤ j ∧ (j : Int) < f + c
        · rw [if_pos (by omega), if_pos h4]
        · rw [if_neg (by omega), if_neg h4, if_neg (by omega)]
    rw [e] at hW2
    exact r_v rfl rfl hW2
  | succ k ih =>
    intro c h hc hk hW
    by_cases hcn : c = n
    · subst hcn
      refine g_iload rfl rfl ?_
      refine g_iflt rfl rfl (fun c1 => ?_) (fun c => absurd c (by omega))
      refine g_aload_n rfl rfl ?_
      refine g_get (ci := 3) (kk := 0) rfl rfl hW.tape hW.tapeb rfl ?_
      refine g_iload_n rfl rfl ?_
      refine g_iload_n rfl rfl ?_
      refine g_iadd rfl (by omega) ?_
      refine g_iconst (n := 0) rfl (by decide) ?_
      refine g_Vn (z := yRw_put) (e := 1) (A := [aI 0, aI (f + ((c : Int)))]) (rest := [])  rfl rfl rfl rfl rfl rfl (by omega) (hW.row (by decide)) (hW.rowb (by decide)) (c_put hW (by decide) _ _) ?_
      intro hh2 hW2
      rw [uR_uR, uR_get] at hW2
      have e : rput (pox l f c c v) (f + (c : Int)) 0 = poct l f c v := by
        unfold pox poct
        rw [rput_oF (by omega) (by omega)]
        refine oF_ext fun j hj => ?_
        unfold va_up
        by_cases h3 : j = (f + (c : Int)).toNat
        · rw [if_pos h3, if_neg (by omega), if_pos (by omega)]
          decide
        · rw [if_neg h3]
          dsimp only
          by_cases h4 : f ≤ j ∧ (j : Int) < f + c
          · rw [if_pos (by omega), if_pos h4]
          · rw [if_neg (by omega), if_neg h4, if_neg (by omega)]
      rw [e] at hW2
      exact r_v rfl rfl hW2
    · have hq : 0 ≤ v / 8 ^ c := Int.ediv_nonneg hv (Int.pow_nonneg (by decide))
      have hq2 : v / 8 ^ c ≤ 2147483647 := Int.le_trans (Int.ediv_le_self _ hv) hv2
      refine g_iload rfl rfl ?_
      refine g_iflt rfl rfl (fun c => absurd c (by omega)) (fun c1 => ?_)
      refine g_aload_n rfl rfl ?_
      refine g_get (ci := 3) (kk := 0) rfl rfl hW.tape hW.tapeb rfl ?_
      refine g_iload_n rfl rfl ?_
      refine g_iload rfl rfl ?_
      refine g_iadd rfl (by omega) ?_
      refine g_bipush (n := 48) rfl (by decide) ?_
      refine g_iload rfl rfl ?_
      refine g_bipush (n := 7) rfl (by decide) ?_
      refine g_iand (v := (v / 8 ^ c) % 8) rfl (a_and7 _) ?_
      refine g_iadd rfl (by omega) ?_
      refine g_Vn (z := yRw_put) (e := 1) (A := [aI (48 + ((v / 8 ^ c) % 8)), aI (f + ((n : Int) - 1 - c))]) (rest := [])  rfl rfl rfl rfl rfl rfl (by omega) (hW.row (by decide)) (hW.rowb (by decide)) (c_put hW (by decide) _ _) ?_
      intro hh2 hW2
      rw [uR_uR, uR_get] at hW2
      have e : rput (pox l f n c v) (f + ((n : Int) - 1 - c)) (48 + v / 8 ^ c % 8) = pox l f n (c + 1) v := by
        unfold pox
        rw [rput_oF (by omega) (by omega)]
        refine oF_ext fun j hj => ?_
        unfold va_up
        by_cases h3 : j = (f + ((n : Int) - 1 - c)).toNat
        · rw [if_pos h3, if_pos (by omega), show (f + n - 1 - (j : Int)).toNat = c by omega]
          exact a8_id (by omega) (by omega)
        · rw [if_neg h3]
          dsimp only
          by_cases h4 : f + n - c ≤ j ∧ (j : Int) < f + n
          · rw [if_pos h4, if_pos (by omega)]
          · rw [if_neg h4, if_neg (by omega)]
      rw [e] at hW2
      refine g_iload rfl rfl ?_
      refine g_iconst (n := 3) rfl (by decide) ?_
      refine g_iushr (v := (v / 8 ^ c) / 8) rfl (a_ushr3 (by omega) (by omega)) ?_
      refine g_istore (L' := [aR (g 530), aI f, aI ((n : Int)), aI v, aI ((v / 8 ^ c) / 8), aI ((n : Int) - 1 - c)]) rfl rfl ?_
      refine g_iinc (L' := [aR (g 530), aI f, aI ((n : Int)), aI v, aI ((v / 8 ^ c) / 8), aI ((n : Int) - 1 - c + (-1))]) rfl rfl (by omega) rfl ?_
      refine g_goto rfl rfl ?_
      have h9 := ih (c + 1) _ (by omega) (by omega) hW2
      rw [← div8, show (n : Int) - 1 - ((c + 1 : Nat) : Int) = (n : Int) - 1 - c + -1 by omega] at h9
      exact h9
theorem c_putOctal (hd1 : 1 ≤ d) (hW : WC K h g st cb sb) (f v : Int) (n : Nat) (hn : n ≤ 11) (hf : 0 ≤ f) (hl : f + n < (st.1 121).length) (hv : 0 ≤ v) (hv2 : v ≤ 2147483647) : Cal d yTp_putOctal [aR (g 530), aI f, aI (n : Int), aI v] h (RV none (fun h2 => WC K h2 g (uR st 121 (poct (st.1 121) f n v)) cb sb)) := by
  obtain ⟨d, rfl⟩ : ∃ e, d = e + 1 := ⟨d - 1, by omega⟩
  have hl2 := hW.len (r := 121) (by decide)
  have hW2 : WC K h g (uR st 121 (pox (st.1 121) f n 0 v)) cb sb := by
    have e : pox (st.1 121) f n 0 v = st.1 121 := by
      conv => rhs; rw [← oF_of (st.1 121)]
      exact oF_ext fun j hj => by rw [if_neg (by omega)]
    rw [e, uR_self]
    exact hW
  show Go _ _ 0 [aR (g 530), aI f, aI (n : Int), aI v, none, none] [] _ _
  refine g_iload_n rfl rfl ?_
  refine g_istore (L' := [aR (g 530), aI f, aI ((n : Int)), aI v, aI v, none]) rfl rfl ?_
  refine g_iload_n rfl rfl ?_
  refine g_iconst (n := 1) rfl (by decide) ?_
  refine g_isub rfl (by omega) ?_
  refine g_istore (L' := [aR (g 530), aI f, aI ((n : Int)), aI v, aI v, aI (((n : Int)) - 1)]) rfl rfl ?_
  have h9 := po_loop (d := d) f v n (st.1 121) hn hf hl hl2 hv hv2 n 0 _ (by omega) (by omega) hW2
  rw [show v / 8 ^ 0 = v by simp, show (n : Int) - 1 - ((0 : Nat) : Int) = (n : Int) - 1 by omega] at h9
  exact h9
theorem pm_loop (hK : KOK K) (f : Int) (l : List Int) (hf : 0 ≤ f) (hl : f + 8 ≤ l.length) (hl2 : l.length ≤ 10240) : ∀ (k : Nat) (i : Int) (h : AH), 0 ≤ i → i ≤ 8 → (8 - i).toNat ≤ k → WC K h g (uR st 121 (oF l.length (fun j => if f ≤ j ∧ (j : Int) < f + i then mkf (j - f).toNat else l.getD j 0))) cb sb → Go (d + 1) yTp_putMark 2 [aR (g 530), aI f, aI i] [] h (RV none (fun h2 => WC K h2 g (uR st 121 (pmrk l f)) cb sb)) := by
  intro k
  induction k with
  | zero =>
    intro i h hi0 hi8 hk hW
    obtain rfl : i = 8 := by omega
    refine g_iload_n rfl rfl ?_
    refine g_gets rfl rfl ?_
    refine g_alen rfl (hW.mark hK) (by decide) ?_
    refine g_icmpge rfl rfl (fun c1 => ?_) (fun c => absurd c (by decide))
    exact r_v rfl rfl hW
  | succ k ih =>
    intro i h hi0 hi8 hk hW
    by_cases hi : i = 8
    · subst hi
      refine g_iload_n rfl rfl ?_
      refine g_gets rfl rfl ?_
      refine g_alen rfl (hW.mark hK) (by decide) ?_
      refine g_icmpge rfl rfl (fun c1 => ?_) (fun c => absurd c (by decide))
      exact r_v rfl rfl hW
    · skip
      refine g_iload_n rfl rfl ?_
      refine g_gets rfl rfl ?_
      refine g_alen rfl (hW.mark hK) (by decide) ?_
      refine g_icmpge rfl rfl (fun c => absurd c (by omega)) (fun c1 => ?_)
      refine g_aload_n rfl rfl ?_
      refine g_get (ci := 3) (kk := 0) rfl rfl hW.tape hW.tapeb rfl ?_
      refine g_iload_n rfl rfl ?_
      refine g_iload_n rfl rfl ?_
      refine g_iadd rfl (by omega) ?_
      refine g_gets rfl rfl ?_
      refine g_iload_n rfl rfl ?_
      refine g_bald rfl (hW.mark hK) (by omega) ?_
      refine g_Vn (z := yRw_put) (e := 1) (A := [aI (mkf (i).toNat), aI (f + i)]) (rest := [])  rfl rfl rfl rfl rfl rfl (by omega) (hW.row (by decide)) (hW.rowb (by decide)) (c_put hW (by decide) _ _) ?_
      intro hh2 hW2
      rw [uR_uR, uR_get] at hW2
      have e : rput (oF l.length (fun j => if f ≤ j ∧ (j : Int) < f + i then mkf (j - f).toNat else l.getD j 0)) (f + i) (mkf i.toNat) = oF l.length (fun j => if f ≤ j ∧ (j : Int) < f + (i + 1) then mkf (j - f).toNat else l.getD j 0) := by
        rw [rput_oF (by omega) (by omega)]
        refine oF_ext fun j hj => ?_
        unfold va_up
        have hmr := mkf_r i.toNat
        by_cases h3 : j = (f + i).toNat
        · rw [if_pos h3, if_pos (by omega), show ((j : Int) - f).toNat = i.toNat by omega]
          exact a8_id (by omega) (by omega)
        · rw [if_neg h3]
          dsimp only
          by_cases h4 : f ≤ j ∧ (j : Int) < f + i
          · rw [if_pos h4, if_pos (by omega)]
          · rw [if_neg h4, if_neg (by omega)]
      rw [e] at hW2
      refine g_iinc (L' := [aR (g 530), aI f, aI (i + 1)]) rfl rfl (by omega) rfl ?_
      refine g_goto rfl rfl ?_
      exact ih (i + 1) _ (by omega) (by omega) (by omega) hW2
theorem c_putMark (hd1 : 1 ≤ d) (hK : KOK K) (hW : WC K h g st cb sb) (f : Int) (hf : 0 ≤ f) (hl : f + 8 ≤ (st.1 121).length) : Cal d yTp_putMark [aR (g 530), aI f] h (RV none (fun h2 => WC K h2 g (uR st 121 (pmrk (st.1 121) f)) cb sb)) := by
  obtain ⟨d, rfl⟩ : ∃ e, d = e + 1 := ⟨d - 1, by omega⟩
  have hl2 := hW.len (r := 121) (by decide)
  have hW2 : WC K h g (uR st 121 (oF (st.1 121).length (fun j => if f ≤ j ∧ (j : Int) < f + 0 then mkf (j - f).toNat else (st.1 121).getD j 0))) cb sb := by
    have e : oF (st.1 121).length (fun j => if f ≤ j ∧ (j : Int) < f + 0 then mkf (j - f).toNat else (st.1 121).getD j 0) = st.1 121 := by
      conv => rhs; rw [← oF_of (st.1 121)]
      exact oF_ext fun j hj => by rw [if_neg (by omega)]
    rw [e, uR_self]
    exact hW
  show Go _ _ 0 [aR (g 530), aI f, none] [] _ _
  refine g_iconst (n := 0) rfl (by decide) ?_
  refine g_istore_n (L' := [aR (g 530), aI f, aI 0]) rfl rfl ?_
  exact pm_loop (d := d) hK f (st.1 121) hf hl hl2 8 0 _ (by omega) (by omega) (by omega) hW2
def pchk (l : List Int) (b : Int) : List Int := rput (poct l (b * 512 + 148) 6 (sums l b 512)) (b * 512 + 155) 32
theorem c_putCheck (hd2 : 2 ≤ d) (hW : WC K h g st cb sb) (b : Int) (h0 : 0 ≤ b) (h1 : b * 512 + 512 ≤ (st.1 121).length) : Cal d yTp_putCheck [aR (g 530), aI b] h (RV (some (aI (sums (st.1 121) b 512))) (fun h2 => WC K h2 g (uR st 121 (pchk (st.1 121) b)) cb sb)) := by
  have hl2 := hW.len (r := 121) (by decide)
  have hs1 := sums_nn (l := st.1 121) h0 512 (by omega)
  have hs2 := (sums_r (st.1 121) b 512).2
  show Go _ _ 0 [aR (g 530), aI b, none] [] _ _
  refine g_aload_n rfl rfl ?_
  refine g_iload_n rfl rfl ?_
  refine g_V (z := yTp_sum) (e := 1) (A := [aI b]) (rest := []) (v := aI (sums (st.1 121) b 512)) (P := fun h2 => h2 = h) rfl rfl rfl rfl rfl rfl (by omega) hW.tape hW.tapeb (c_sum (by omega) hW b h0 (by omega)) ?_
  intro hh9 he9
  rw [he9]
  clear he9 hh9
  refine g_istore_n (L' := [aR (g 530), aI b, aI (sums (st.1 121) b 512)]) rfl rfl ?_
  refine g_aload_n rfl rfl ?_
  refine g_iload_n rfl rfl ?_
  refine g_sipush (n := 512) rfl (by decide) ?_
  refine g_imul rfl (by omega) ?_
  refine g_sipush (n := 148) rfl (by decide) ?_
  refine g_iadd rfl (by omega) ?_
  refine g_bipush (n := 6) rfl (by decide) ?_
  refine g_iload_n rfl rfl ?_
  refine g_Vn (z := yTp_putOctal) (e := 1) (A := [aI (sums (st.1 121) b 512), aI 6, aI ((b * 512) + 148)]) (rest := [])  rfl rfl rfl rfl rfl rfl (by omega) hW.tape hW.tapeb (c_putOctal (n := 6) (by omega) hW _ _ (by omega) (by omega) (by omega) (by omega) (by omega)) ?_
  intro hh1 hW
  refine g_aload_n rfl rfl ?_
  refine g_get (ci := 3) (kk := 0) rfl rfl hW.tape hW.tapeb rfl ?_
  refine g_iload_n rfl rfl ?_
  refine g_sipush (n := 512) rfl (by decide) ?_
  refine g_imul rfl (by omega) ?_
  refine g_sipush (n := 156) rfl (by decide) ?_
  refine g_iadd rfl (by omega) ?_
  refine g_iconst (n := 1) rfl (by decide) ?_
  refine g_isub rfl (by omega) ?_
  refine g_bipush (n := 32) rfl (by decide) ?_
  refine g_Vn (z := yRw_put) (e := 1) (A := [aI 32, aI (((b * 512) + 156) - 1)]) (rest := [])  rfl rfl rfl rfl rfl rfl (by omega) (hW.row (by decide)) (hW.rowb (by decide)) (c_put hW (by decide) _ _) ?_
  intro hh2 hW
  rw [uR_uR, uR_get, show b * 512 + 156 - 1 = b * 512 + 155 by omega] at hW
  refine g_iload_n rfl rfl ?_
  exact r_i rfl rfl rfl hW
end TapeC
