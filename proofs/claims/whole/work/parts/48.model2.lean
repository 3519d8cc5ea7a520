/-! The reference: numbers, texts, names, comparisons. -/
section Md2
variable {B h : AH} {m0 d t : Nat} {s : MS}
theorem ffst_at {p : Nat → Prop} {a : Nat} : ∀ (n i : Nat), i ≤ a → a < i + n → p a → (∀ j, i ≤ j → j < a → ¬ p j) → ffst p n i = a := by
  intro n
  induction n with
  | zero => intro i h1 h2; omega
  | succ n ih =>
    intro i h1 h2 h3 h4
    by_cases e : i = a
    · subst e
      exact ffst_t h3
    · rw [ffst_f (h4 i (by omega) (by omega))]
      exact ih (i + 1) (by omega) (by omega) h3 (fun j a b => h4 j (by omega) b)
theorem ffst_no {p : Nat → Prop} : ∀ (n i : Nat), (∀ j, i ≤ j → j < i + n → ¬ p j) → ffst p n i = -1 := by
  intro n
  induction n with
  | zero => intro i _; rfl
  | succ n ih =>
    intro i h
    rw [ffst_f (h i (by omega) (by omega))]
    exact ih (i + 1) (fun j a b => h j (by omega) (by omega))
theorem ffst_p {p : Nat → Prop} : ∀ (n i : Nat), ffst p n i ≠ -1 → p (ffst p n i).toNat := by
  intro n
  induction n with
  | zero => intro i h; exact absurd rfl h
  | succ n ih =>
    intro i h
    by_cases q : p i
    · rw [ffst_t q]
      exact q
    · rw [ffst_f q] at h ⊢
      exact ih (i + 1) h
theorem mo_end (f : Int) (n : Nat) (v k V : Int) (hV : V = -1) : Go d yMd_number 23 [aR m0, aI f, aI (n : Int), aL v, none, aI 0, aI k] [] h (RV (some (aL V)) (fun h2 => h2 = h)) := by
  subst hV
  refine g_iload rfl rfl ?_
  refine g_iload_n rfl rfl ?_
  refine g_icmpge rfl rfl (fun c1 => ?_) (fun c1 => ?_)
  · skip
    refine g_iload rfl rfl ?_
    refine g_ifeq rfl rfl (fun c => ?_) (fun c => absurd c (by decide))
    refine g_ldc2 (v := -1) rfl rfl ?_
    exact r_l rfl rfl rfl rfl
  · skip
    refine g_iload rfl rfl ?_
    refine g_ifeq rfl rfl (fun c => ?_) (fun c => absurd c (by decide))
    refine g_iload rfl rfl ?_
    refine g_ifeq rfl rfl (fun c => ?_) (fun c => absurd c (by decide))
    refine g_ldc2 (v := -1) rfl rfl ?_
    exact r_l rfl rfl rfl rfl
theorem mo_loop (hM : MOK s) (hW : WM B m0 h s) (f : Int) (n : Nat) (hn : n ≤ 11) (hf : 0 ≤ f) (hf2 : f + n < s.2 13) (hz : rat (pg s) (f + n) = 0) : ∀ (k i : Nat), i + k = n → octok (pg s) f i → Go (d + 1) yMd_number 23 [aR m0, aI f, aI (n : Int), aL (octs (pg s) f i), none, aI 1, aI (i : Int)] [] h (RV (some (aL (octv (pg s) f n))) (fun h2 => h2 = h)) := by
  have hm := hM.2.2.2.2
  intro k
  induction k with
  | zero =>
    intro i hi hok
    obtain rfl : i = n := by omega
    have e : octv (pg s) f i = octs (pg s) f i := @if_pos _ (Classical.propDecidable _) ⟨hok, hz⟩ _ _ _
    refine g_iload rfl rfl ?_
    refine g_iload_n rfl rfl ?_
    refine g_icmpge rfl rfl (fun c1 => ?_) (fun c => absurd c (by omega))
    refine g_iload rfl rfl ?_
    refine g_ifeq rfl rfl (fun c => absurd c (by decide)) (fun c => ?_)
    refine g_lload_n rfl rfl ?_
    refine g_goto rfl rfl ?_
    exact r_l rfl rfl e.symm rfl
  | succ k ih =>
    intro i hi hok
    have hr := pg_rat s (i := f + i) (by omega) (by omega)
    have h8 := hW.p8 (f + i).toNat
    have ho := octs_r hok
    have hp := pow8_le (n := i) (by omega)
    refine g_iload rfl rfl ?_
    refine g_iload_n rfl rfl ?_
    refine g_icmpge rfl rfl (fun c => absurd c (by omega)) (fun c1 => ?_)
    refine g_iload rfl rfl ?_
    refine g_ifeq rfl rfl (fun c => absurd c (by decide)) (fun c => ?_)
    refine g_aload_n rfl rfl ?_
    refine g_get (ci := 8) (kk := 12) rfl rfl hW.ob hW.b0 rfl ?_
    refine g_iload_n rfl rfl ?_
    refine g_iload rfl rfl ?_
    refine g_iadd rfl (by omega) ?_
    refine g_bald rfl hW.a12 (by omega) ?_
    refine g_bipush (n := 48) rfl (by decide) ?_
    refine g_bipush (n := 55) rfl (by decide) ?_
    refine g_S (z := yMd_within) (e := 1) (A := [aI 55, aI 48, aI ((s.1 12) (f + ((i : Int))).toNat)]) (rest := []) (v := aI (pz (48 ≤ s.1 12 (f + (i : Int)).toNat ∧ s.1 12 (f + (i : Int)).toNat ≤ 55))) (P := fun h2 => h2 = h) rfl rfl rfl rfl rfl rfl (by omega) (m_within _ _ _) ?_
    intro hh9 he9
    rw [he9]
    clear he9 hh9
    refine g_istore (L' := [aR m0, aI f, aI ((n : Int)), aL (octs (pg s) f i), none, aI (pz (48 ≤ s.1 12 (f + (i : Int)).toNat ∧ s.1 12 (f + (i : Int)).toNat ≤ 55)), aI ((i : Int))]) rfl rfl ?_
    refine g_ldc2 (v := 8) rfl rfl ?_
    refine g_lload_n rfl rfl ?_
    refine g_lmul rfl (by omega) ?_
    refine g_aload_n rfl rfl ?_
    refine g_get (ci := 8) (kk := 12) rfl rfl hW.ob hW.b0 rfl ?_
    refine g_iload_n rfl rfl ?_
    refine g_iload rfl rfl ?_
    refine g_iadd rfl (by omega) ?_
    refine g_bald rfl hW.a12 (by omega) ?_
    refine g_i2l rfl ?_
    refine g_ladd rfl (by omega) ?_
    refine g_ldc2 (v := 48) rfl rfl ?_
    refine g_lsub rfl (by omega) ?_
    refine g_lstore_n (L' := [aR m0, aI f, aI ((n : Int)), aL (((8 * (octs (pg s) f i)) + ((s.1 12) (f + ((i : Int))).toNat)) - 48), none, aI (pz (48 ≤ s.1 12 (f + (i : Int)).toNat ∧ s.1 12 (f + (i : Int)).toNat ≤ 55)), aI ((i : Int))]) rfl rfl ?_
    refine g_iinc (L' := [aR m0, aI f, aI ((n : Int)), aL (((8 * (octs (pg s) f i)) + ((s.1 12) (f + ((i : Int))).toNat)) - 48), none, aI (pz (48 ≤ s.1 12 (f + (i : Int)).toNat ∧ s.1 12 (f + (i : Int)).toNat ≤ 55)), aI ((i : Int) + 1)]) rfl rfl (by omega) rfl ?_
    refine g_goto rfl rfl ?_
    by_cases hg : 48 ≤ s.1 12 (f + (i : Int)).toNat ∧ s.1 12 (f + (i : Int)).toNat ≤ 55
    · rw [pz_t hg]
      have h9 := ih (i + 1) (by omega) (fun j hj => by
        by_cases e : j = i
        · rw [e, hr]; omega
        · exact hok j (by omega))
      rw [show octs (pg s) f (i + 1) = ((8 * (octs (pg s) f i)) + ((s.1 12) (f + ((i : Int))).toNat)) - 48 from by show octs (pg s) f i * 8 + (rat (pg s) (f + i) - 48) = _; rw [hr]; omega] at h9
      exact h9
    · rw [pz_f hg]
      refine mo_end (d := d + 1) f n _ _ _ ?_
      refine @if_neg _ (Classical.propDecidable _) (fun q => ?_) _ _ _
      have q1 := q.1 i (by omega)
      rw [hr] at q1
      omega
theorem m_number (hd1 : 1 ≤ d) (hM : MOK s) (hW : WM B m0 h s) (f : Int) (n : Nat) (hn : n ≤ 11) (hf : 0 ≤ f) (hf2 : f + n < s.2 13) : Cal d yMd_number [aR m0, aI f, aI (n : Int)] h (RV (some (aL (octv (pg s) f n))) (fun h2 => h2 = h)) := by
  obtain ⟨d, rfl⟩ : ∃ e, d = e + 1 := ⟨d - 1, by omega⟩
  have hm := hM.2.2.2.2
  have hr := pg_rat s (i := f + n) (by omega) (by omega)
  have h8 := hW.p8 (f + n).toNat
  show Go _ _ 0 [aR m0, aI f, aI (n : Int), none, none, none, none] [] _ _
  refine g_lconst (m := 0) rfl rfl ?_
  refine g_lstore_n (L' := [aR m0, aI f, aI ((n : Int)), aL 0, none, none, none]) rfl rfl ?_
  refine g_aload_n rfl rfl ?_
  refine g_get (ci := 8) (kk := 12) rfl rfl hW.ob hW.b0 rfl ?_
  refine g_iload_n rfl rfl ?_
  refine g_iload_n rfl rfl ?_
  refine g_iadd rfl (by omega) ?_
  refine g_bald rfl hW.a12 (by omega) ?_
  refine g_ifne rfl rfl (fun c1 => ?_) (fun c1 => ?_)
  · skip
    have cz := c1
    refine g_iconst (n := 0) rfl (by decide) ?_
    refine g_istore (L' := [aR m0, aI f, aI ((n : Int)), aL 0, none, aI 0, none]) rfl rfl ?_
    refine g_iconst (n := 0) rfl (by decide) ?_
    refine g_istore (L' := [aR m0, aI f, aI ((n : Int)), aL 0, none, aI 0, aI 0]) rfl rfl ?_
    refine mo_end (d := d + 1) f n _ _ _ ?_
    refine @if_neg _ (Classical.propDecidable _) (fun q => ?_) _ _ _
    have q1 := q.2
    rw [hr] at q1
    omega
  · skip
    have cz := c1
    refine g_iconst (n := 1) rfl (by decide) ?_
    refine g_goto rfl rfl ?_
    refine g_istore (L' := [aR m0, aI f, aI ((n : Int)), aL 0, none, aI 1, none]) rfl rfl ?_
    refine g_iconst (n := 0) rfl (by decide) ?_
    refine g_istore (L' := [aR m0, aI f, aI ((n : Int)), aL 0, none, aI 1, aI 0]) rfl rfl ?_
    exact mo_loop (d := d) hM hW f n hn hf hf2 (by rw [hr, cz]; rfl) n 0 (by omega) (fun j hj => absurd hj (Nat.not_lt_zero _))
theorem mt_loop {Q : AO → AH → Prop} (hM : MOK s) (hW : WM B m0 h s) (f E : Int) (m : Nat) (hf : 0 ≤ f) (hf2 : f + m ≤ s.2 13) (kk : Go d yMd_textOf 24 [aR m0, aI f, aI (m : Int), aI E] [] h Q) : ∀ (n i : Nat), i + n = m → (i : Int) + tx (pg s) (f + i) n = E → Go d yMd_textOf 2 [aR m0, aI f, aI (m : Int), aI (i : Int)] [] h Q := by
  have hm := hM.2.2.2.2
  intro n
  induction n with
  | zero =>
    intro i hi hE
    have hE2 : (i : Int) = E := by rw [← hE]; show (i : Int) = i + ((0 : Nat) : Int); omega
    rw [hE2]
    refine g_iload_n rfl rfl ?_
    refine g_iload_n rfl rfl ?_
    refine g_icmpge rfl rfl (fun c1 => ?_) (fun c => absurd c (by omega))
    exact kk
  | succ n ih =>
    intro i hi hE
    have hr := pg_rat s (i := f + i) (by omega) (by omega)
    have h8 := hW.p8 (f + i).toNat
    rw [show tx (pg s) (f + i) (n + 1) = if 0 < rat (pg s) (f + i) then tx (pg s) (f + i + 1) n + 1 else 0 from rfl] at hE
    refine g_iload_n rfl rfl ?_
    refine g_iload_n rfl rfl ?_
    refine g_icmpge rfl rfl (fun c => absurd c (by omega)) (fun c1 => ?_)
    refine g_aload_n rfl rfl ?_
    refine g_get (ci := 8) (kk := 12) rfl rfl hW.ob hW.b0 rfl ?_
    refine g_iload_n rfl rfl ?_
    refine g_iload_n rfl rfl ?_
    refine g_iadd rfl (by omega) ?_
    refine g_bald rfl hW.a12 (by omega) ?_
    refine g_ifeq rfl rfl (fun c2 => ?_) (fun c2 => ?_)
    · skip
      rw [if_neg (by omega)] at hE
      have hE2 : (i : Int) = E := by omega
      rw [hE2]
      exact kk
    · skip
      rw [if_pos (by omega)] at hE
      refine g_iinc (L' := [aR m0, aI f, aI ((m : Int)), aI ((i : Int) + 1)]) rfl rfl (by omega) rfl ?_
      refine g_goto rfl rfl ?_
      exact ih (i + 1) (by omega) (by rw [← hE]; rw [show f + ((i + 1 : Nat) : Int) = f + i + 1 by omega]; omega)
theorem m_textOf (hd1 : 1 ≤ d) (hM : MOK s) (hW : WM B m0 h s) (f : Int) (m : Nat) (hf : 0 ≤ f) (hf2 : f + m ≤ s.2 13) : Cal d yMd_textOf [aR m0, aI f, aI (m : Int)] h (RV (some (aI (pk (zrs (pg s) (f + tx (pg s) f m) (f + m)) (tx (pg s) f m) (-1)))) (fun h2 => h2 = h)) := by
  have hm := hM.2.2.2.2
  have htx := tx_le (pg s) m f
  show Go _ _ 0 [aR m0, aI f, aI (m : Int), none] [] _ _
  refine g_iconst (n := 0) rfl (by decide) ?_
  refine g_istore_n (L' := [aR m0, aI f, aI ((m : Int)), aI 0]) rfl rfl ?_
  have h9 := fun Q kk => mt_loop (Q := Q) (d := d) hM hW f (tx (pg s) f m) m hf hf2 kk m 0 (by omega) (by simp)
  refine h9 _ ?_
  clear h9
  refine g_aload_n rfl rfl ?_
  refine g_iload_n rfl rfl ?_
  refine g_iload_n rfl rfl ?_
  refine g_iadd rfl (by omega) ?_
  refine g_iload_n rfl rfl ?_
  refine g_iload_n rfl rfl ?_
  refine g_iadd rfl (by omega) ?_
  refine g_V (z := yMd_isZero) (e := 1) (A := [aI (f + ((m : Int))), aI (f + ((tx (pg s) f m : Int)))]) (rest := []) (v := aI (pz (zrs (pg s) (f + (tx (pg s) f m : Int)) (f + (m : Int))))) (P := fun h2 => h2 = h) rfl rfl rfl rfl rfl rfl (by omega) hW.ob hW.b0 (m_isZero hM hW _ _ (by omega) (by omega)) ?_
  intro hh9 he9
  rw [he9]
  clear he9 hh9
  refine g_ifeq rfl rfl (fun c1 => ?_) (fun c1 => ?_)
  · skip
    have cz := c1
    refine g_iconst (n := -1) rfl (by decide) ?_
    exact r_i rfl rfl (pk_f (pz_eq cz)).symm rfl
  · skip
    have cz := c1
    refine g_iload_n rfl rfl ?_
    refine g_goto rfl rfl ?_
    exact r_i rfl rfl (pk_t (pz_ne cz)).symm rfl
theorem mn_B0 (f n g0 k V : Int) (hV : V = g0) (h01 : g0 = 0 ∨ g0 = 1) : Go d yMd_isName 65 [aR (m0 + 13), aI f, aI n, aI g0, aI 0, aI k] [] h (RV (some (aI V)) (fun h2 => h2 = h)) := by
  subst hV
  rcases h01 with q | q <;> subst q
  · skip
    refine g_iload rfl rfl ?_
    refine g_iload_n rfl rfl ?_
    refine g_icmpge rfl rfl (fun c1 => ?_) (fun c1 => ?_)
    · skip
      refine g_iload_n rfl rfl ?_
      refine g_ifeq rfl rfl (fun c => ?_) (fun c => absurd c (by decide))
      refine g_iconst (n := 0) rfl (by decide) ?_
      exact r_z rfl rfl (by decide) rfl rfl
    · skip
      refine g_iload rfl rfl ?_
      refine g_ifeq rfl rfl (fun c => ?_) (fun c => absurd c (by decide))
      refine g_iload_n rfl rfl ?_
      refine g_ifeq rfl rfl (fun c => ?_) (fun c => absurd c (by decide))
      refine g_iconst (n := 0) rfl (by decide) ?_
      exact r_z rfl rfl (by decide) rfl rfl
  · skip
    refine g_iload rfl rfl ?_
    refine g_iload_n rfl rfl ?_
    refine g_icmpge rfl rfl (fun c1 => ?_) (fun c1 => ?_)
    · skip
      refine g_iload_n rfl rfl ?_
      refine g_ifeq rfl rfl (fun c => absurd c (by decide)) (fun c => ?_)
      refine g_iload rfl rfl ?_
      refine g_ifne rfl rfl (fun c => absurd c (by decide)) (fun c => ?_)
      refine g_iconst (n := 1) rfl (by decide) ?_
      refine g_goto rfl rfl ?_
      exact r_z rfl rfl (by decide) rfl rfl
    · skip
      refine g_iload rfl rfl ?_
      refine g_ifeq rfl rfl (fun c => ?_) (fun c => absurd c (by decide))
      refine g_iload_n rfl rfl ?_
      refine g_ifeq rfl rfl (fun c => absurd c (by decide)) (fun c => ?_)
      refine g_iload rfl rfl ?_
      refine g_ifne rfl rfl (fun c => absurd c (by decide)) (fun c => ?_)
      refine g_iconst (n := 1) rfl (by decide) ?_
      refine g_goto rfl rfl ?_
      exact r_z rfl rfl (by decide) rfl rfl
def nmW (s : MS) (f n : Int) : Prop := nmix (wy s) f (f + n) ∧ n ≤ 100
theorem mn_Bl (hW : WM B m0 h s) (f n : Int) (hf : 0 ≤ f) (hw : f + n ≤ s.2 16) (hw2 : s.2 16 ≤ 3200) (h1 : 1 ≤ n) (h2 : n < 3) (hl : ∀ j : Nat, f ≤ j → (j : Int) < f + n → ltr ((wy s).getD j 0)) : ∀ (q : Nat) (k : Int), 0 ≤ k → k ≤ n → (n - k).toNat ≤ q → (∀ j : Nat, f ≤ j → (j : Int) < f + k → (wy s).getD j 0 % 256 = 46) → Go d yMd_isName 65 [aR (m0 + 13), aI f, aI n, aI 1, aI 1, aI k] [] h (RV (some (aI (pz (nmW s f n)))) (fun h2 => h2 = h)) := by
  have hdead : (∀ j : Nat, f ≤ j → (j : Int) < f + n → (wy s).getD j 0 % 256 = 46) → ¬ nmW s f n := fun z q => q.1.2.2 ⟨z, by omega⟩
  intro q
  induction q with
  | zero =>
    intro k h3 h4 h5 h6
    refine g_iload rfl rfl ?_
    refine g_iload_n rfl rfl ?_
    refine g_icmpge rfl rfl (fun c1 => ?_) (fun c => absurd c (by omega))
    refine g_iload_n rfl rfl ?_
    refine g_ifeq rfl rfl (fun c => absurd c (by decide)) (fun c => ?_)
    refine g_iload rfl rfl ?_
    refine g_ifne rfl rfl (fun c => ?_) (fun c => absurd c (by decide))
    refine g_iconst (n := 0) rfl (by decide) ?_
    exact r_z rfl rfl (by decide) (pz_f (hdead (fun j a b => h6 j a (by omega)))).symm rfl
  | succ q ih =>
    intro k h3 h4 h5 h6
    by_cases hk : k < n
    · have h8 := hW.w8 (f + k).toNat
      have hg := wy_get s (j := (f + k).toNat) (by omega)
      refine g_iload rfl rfl ?_
      refine g_iload_n rfl rfl ?_
      refine g_icmpge rfl rfl (fun c => absurd c (by omega)) (fun c1 => ?_)
      refine g_iload rfl rfl ?_
      refine g_ifeq rfl rfl (fun c => absurd c (by decide)) (fun c => ?_)
      refine g_aload_n rfl rfl ?_
      refine g_iload_n rfl rfl ?_
      refine g_iload rfl rfl ?_
      refine g_iadd rfl (by omega) ?_
      refine g_bald rfl hW.a13 (by omega) ?_
      refine g_bipush (n := 46) rfl (by decide) ?_
      refine g_icmpne rfl rfl (fun c3 => ?_) (fun c3 => ?_)
      · skip
        have cz := c3
        refine g_iconst (n := 0) rfl (by decide) ?_
        refine g_istore (L' := [aR (m0 + 13), aI f, aI n, aI 1, aI 0, aI k]) rfl rfl ?_
        refine g_iinc (L' := [aR (m0 + 13), aI f, aI n, aI 1, aI 0, aI (k + 1)]) rfl rfl (by omega) rfl ?_
        refine g_goto rfl rfl ?_
        refine mn_B0 f n 1 _ _ (pz_t ⟨⟨hl, by omega, fun z => ?_⟩, by omega⟩) (Or.inr rfl)
        have z1 := z.1 (f + k).toNat (by omega) (by omega)
        rw [hg] at z1
        omega
      · skip
        have cz := c3
        refine g_iconst (n := 1) rfl (by decide) ?_
        refine g_goto rfl rfl ?_
        refine g_istore (L' := [aR (m0 + 13), aI f, aI n, aI 1, aI 1, aI k]) rfl rfl ?_
        refine g_iinc (L' := [aR (m0 + 13), aI f, aI n, aI 1, aI 1, aI (k + 1)]) rfl rfl (by omega) rfl ?_
        refine g_goto rfl rfl ?_
        exact ih (k + 1) (by omega) (by omega) (by omega) (fun j a b => by
          by_cases e : j = (f + k).toNat
          · rw [e, hg, cz]; rfl
          · exact h6 j a (by omega))
    · skip
      refine g_iload rfl rfl ?_
      refine g_iload_n rfl rfl ?_
      refine g_icmpge rfl rfl (fun c1 => ?_) (fun c => absurd c (by omega))
      refine g_iload_n rfl rfl ?_
      refine g_ifeq rfl rfl (fun c => absurd c (by decide)) (fun c => ?_)
      refine g_iload rfl rfl ?_
      refine g_ifne rfl rfl (fun c => ?_) (fun c => absurd c (by decide))
      refine g_iconst (n := 0) rfl (by decide) ?_
      exact r_z rfl rfl (by decide) (pz_f (hdead (fun j a b => h6 j a (by omega)))).symm rfl
theorem mn_46 (hW : WM B m0 h s) (f n g0 : Int) (v4 v5 : AV) (hf : 0 ≤ f) (hw : f + n ≤ s.2 16) (hw2 : s.2 16 ≤ 3200) (hg : (g0 = 0 ∧ ¬ nmW s f n) ∨ (g0 = 1 ∧ 1 ≤ n ∧ n ≤ 100 ∧ ∀ j : Nat, f ≤ j → (j : Int) < f + n → ltr ((wy s).getD j 0))) : Go d yMd_isName 46 [aR (m0 + 13), aI f, aI n, aI g0, v4, v5] [] h (RV (some (aI (pz (nmW s f n)))) (fun h2 => h2 = h)) := by
  rcases hg with ⟨rfl, hg⟩ | ⟨rfl, h1, h2, hl⟩
  · skip
    refine g_iload_n rfl rfl ?_
    refine g_ifeq rfl rfl (fun c => ?_) (fun c => absurd c (by decide))
    refine g_iconst (n := 0) rfl (by decide) ?_
    refine g_istore (L' := [aR (m0 + 13), aI f, aI n, aI 0, aI 0, v5]) rfl rfl ?_
    refine g_iconst (n := 0) rfl (by decide) ?_
    refine g_istore (L' := [aR (m0 + 13), aI f, aI n, aI 0, aI 0, aI 0]) rfl rfl ?_
    exact mn_B0 f n 0 _ _ (pz_f hg) (Or.inl rfl)
  · skip
    refine g_iload_n rfl rfl ?_
    refine g_ifeq rfl rfl (fun c => absurd c (by decide)) (fun c => ?_)
    refine g_iload_n rfl rfl ?_
    refine g_iconst (n := 3) rfl (by decide) ?_
    refine g_icmpge rfl rfl (fun c2 => ?_) (fun c2 => ?_)
    · skip
      have cz := c2
      refine g_iconst (n := 0) rfl (by decide) ?_
      refine g_istore (L' := [aR (m0 + 13), aI f, aI n, aI 1, aI 0, v5]) rfl rfl ?_
      refine g_iconst (n := 0) rfl (by decide) ?_
      refine g_istore (L' := [aR (m0 + 13), aI f, aI n, aI 1, aI 0, aI 0]) rfl rfl ?_
      exact mn_B0 f n 1 _ _ (pz_t ⟨⟨hl, by omega, fun z => by have := z.2; omega⟩, h2⟩) (Or.inr rfl)
    · skip
      have cz := c2
      refine g_iconst (n := 1) rfl (by decide) ?_
      refine g_goto rfl rfl ?_
      refine g_istore (L' := [aR (m0 + 13), aI f, aI n, aI 1, aI 1, v5]) rfl rfl ?_
      refine g_iconst (n := 0) rfl (by decide) ?_
      refine g_istore (L' := [aR (m0 + 13), aI f, aI n, aI 1, aI 1, aI 0]) rfl rfl ?_
      exact mn_Bl hW f n hf hw hw2 h1 (by omega) hl n.toNat 0 (by omega) (by omega) (by omega) (fun j a b => by omega)
theorem mn_loop (hW : WM B m0 h s) (f n : Int) (v5 : AV) (hf : 0 ≤ f) (hw : f + n ≤ s.2 16) (hw2 : s.2 16 ≤ 3200) (h1 : 1 ≤ n) (h2 : n ≤ 100) : ∀ (q : Nat) (k : Int), 0 ≤ k → k ≤ n → (n - k).toNat ≤ q → (∀ j : Nat, f ≤ j → (j : Int) < f + k → ltr ((wy s).getD j 0)) → Go (d + 1) yMd_isName 20 [aR (m0 + 13), aI f, aI n, aI 1, aI k, v5] [] h (RV (some (aI (pz (nmW s f n)))) (fun h2 => h2 = h)) := by
  intro q
  induction q with
  | zero =>
    intro k h3 h4 h5 h6
    refine g_iload rfl rfl ?_
    refine g_iload_n rfl rfl ?_
    refine g_icmpge rfl rfl (fun c1 => ?_) (fun c => absurd c (by omega))
    exact mn_46 (d := d + 1) hW f n 1 _ _ hf hw hw2 (Or.inr ⟨rfl, h1, h2, fun j a b => h6 j a (by omega)⟩)
  | succ q ih =>
    intro k h3 h4 h5 h6
    by_cases hk : k < n
    · have h8 := hW.w8 (f + k).toNat
      have hg := wy_get s (j := (f + k).toNat) (by omega)
      refine g_iload rfl rfl ?_
      refine g_iload_n rfl rfl ?_
      refine g_icmpge rfl rfl (fun c => absurd c (by omega)) (fun c1 => ?_)
      refine g_iload_n rfl rfl ?_
      refine g_ifeq rfl rfl (fun c => absurd c (by decide)) (fun c => ?_)
      refine g_aload_n rfl rfl ?_
      refine g_iload_n rfl rfl ?_
      refine g_iload rfl rfl ?_
      refine g_iadd rfl (by omega) ?_
      refine g_bald rfl hW.a13 (by omega) ?_
      refine g_S (z := yMd_isLetter) (e := 1) (A := [aI ((s.1 13) (f + k).toNat)]) (rest := []) (v := aI (pz (33 ≤ s.1 13 (f + k).toNat ∧ s.1 13 (f + k).toNat ≤ 126 ∧ s.1 13 (f + k).toNat ≠ 47))) (P := fun h2 => h2 = h) rfl rfl rfl rfl rfl rfl (by omega) (m_isLetter _) ?_
      intro hh9 he9
      rw [he9]
      clear he9 hh9
      refine g_istore_n (L' := [aR (m0 + 13), aI f, aI n, aI (pz (33 ≤ s.1 13 (f + k).toNat ∧ s.1 13 (f + k).toNat ≤ 126 ∧ s.1 13 (f + k).toNat ≠ 47)), aI k, v5]) rfl rfl ?_
      refine g_iinc (L' := [aR (m0 + 13), aI f, aI n, aI (pz (33 ≤ s.1 13 (f + k).toNat ∧ s.1 13 (f + k).toNat ≤ 126 ∧ s.1 13 (f + k).toNat ≠ 47)), aI (k + 1), v5]) rfl rfl (by omega) rfl ?_
      refine g_goto rfl rfl ?_
      by_cases hl : 33 ≤ s.1 13 (f + k).toNat ∧ s.1 13 (f + k).toNat ≤ 126 ∧ s.1 13 (f + k).toNat ≠ 47
      · rw [pz_t hl]
        exact ih (k + 1) (by omega) (by omega) (by omega) (fun j a b => by
          by_cases e : j = (f + k).toNat
          · rw [e, hg]; unfold ltr; omega
          · exact h6 j a (by omega))
      · rw [pz_f hl]
        have hno : ¬ nmW s f n := fun q => by
          have q1 := q.1.1 (f + k).toNat (by omega) (by omega)
          rw [hg] at q1
          unfold ltr at q1
          omega
        refine g_iload rfl rfl ?_
        refine g_iload_n rfl rfl ?_
        refine g_icmpge rfl rfl (fun c1 => ?_) (fun c1 => ?_)
        · skip
          exact mn_46 (d := d + 1) hW f n 0 _ _ hf hw hw2 (Or.inl ⟨rfl, hno⟩)
        · skip
          refine g_iload_n rfl rfl ?_
          refine g_ifeq rfl rfl (fun c => ?_) (fun c => absurd c (by decide))
          exact mn_46 (d := d + 1) hW f n 0 _ _ hf hw hw2 (Or.inl ⟨rfl, hno⟩)
    · skip
      refine g_iload rfl rfl ?_
      refine g_iload_n rfl rfl ?_
      refine g_icmpge rfl rfl (fun c1 => ?_) (fun c => absurd c (by omega))
      exact mn_46 (d := d + 1) hW f n 1 _ _ hf hw hw2 (Or.inr ⟨rfl, h1, h2, fun j a b => h6 j a (by omega)⟩)
theorem m_isName (hd1 : 1 ≤ d) (hW : WM B m0 h s) (f n : Int) (hf : 0 ≤ f) (hn : 0 ≤ n) (hw : f + n ≤ s.2 16) (hw2 : s.2 16 ≤ 3200) : Cal d yMd_isName [aR (m0 + 13), aI f, aI n] h (RV (some (aI (pz (nmW s f n)))) (fun h2 => h2 = h)) := by
  obtain ⟨d, rfl⟩ : ∃ e, d = e + 1 := ⟨d - 1, by omega⟩
  show Go _ _ 0 [aR (m0 + 13), aI f, aI n, none, none, none] [] _ _
  refine g_iload_n rfl rfl ?_
  refine g_iconst (n := 1) rfl (by decide) ?_
  refine g_icmplt rfl rfl (fun c1 => ?_) (fun c1 => ?_)
  · skip
    have y1 := c1
    refine g_iconst (n := 0) rfl (by decide) ?_
    refine g_istore_n (L' := [aR (m0 + 13), aI f, aI n, aI 0, none, none]) rfl rfl ?_
    refine g_iconst (n := 0) rfl (by decide) ?_
    refine g_istore (L' := [aR (m0 + 13), aI f, aI n, aI 0, aI 0, none]) rfl rfl ?_
    have hno : ¬ nmW s f n := fun q => by have := q.1.2.1; have := q.2; omega
    refine g_iload rfl rfl ?_
    refine g_iload_n rfl rfl ?_
    refine g_icmpge rfl rfl (fun c1 => ?_) (fun c1 => ?_)
    · skip
      exact mn_46 (d := d + 1) hW f n 0 _ _ hf hw hw2 (Or.inl ⟨rfl, hno⟩)
    · skip
      refine g_iload_n rfl rfl ?_
      refine g_ifeq rfl rfl (fun c => ?_) (fun c => absurd c (by decide))
      exact mn_46 (d := d + 1) hW f n 0 _ _ hf hw hw2 (Or.inl ⟨rfl, hno⟩)
  · skip
    have y1 := c1
    refine g_iload_n rfl rfl ?_
    refine g_bipush (n := 100) rfl (by decide) ?_
    refine g_icmpgt rfl rfl (fun c2 => ?_) (fun c2 => ?_)
    · skip
      have y2 := c2
      refine g_iconst (n := 0) rfl (by decide) ?_
      refine g_istore_n (L' := [aR (m0 + 13), aI f, aI n, aI 0, none, none]) rfl rfl ?_
      refine g_iconst (n := 0) rfl (by decide) ?_
      refine g_istore (L' := [aR (m0 + 13), aI f, aI n, aI 0, aI 0, none]) rfl rfl ?_
      have hno : ¬ nmW s f n := fun q => by have := q.1.2.1; have := q.2; omega
      refine g_iload rfl rfl ?_
      refine g_iload_n rfl rfl ?_
      refine g_icmpge rfl rfl (fun c1 => ?_) (fun c1 => ?_)
      · skip
        exact mn_46 (d := d + 1) hW f n 0 _ _ hf hw hw2 (Or.inl ⟨rfl, hno⟩)
      · skip
        refine g_iload_n rfl rfl ?_
        refine g_ifeq rfl rfl (fun c => ?_) (fun c => absurd c (by decide))
        exact mn_46 (d := d + 1) hW f n 0 _ _ hf hw hw2 (Or.inl ⟨rfl, hno⟩)
    · skip
      have y2 := c2
      refine g_iconst (n := 1) rfl (by decide) ?_
      refine g_goto rfl rfl ?_
      refine g_istore_n (L' := [aR (m0 + 13), aI f, aI n, aI 1, none, none]) rfl rfl ?_
      refine g_iconst (n := 0) rfl (by decide) ?_
      refine g_istore (L' := [aR (m0 + 13), aI f, aI n, aI 1, aI 0, none]) rfl rfl ?_
      exact mn_loop (d := d) hW f n _ hf hw hw2 (by omega) (by omega) n.toNat 0 (by omega) (by omega) (by omega) (fun j a b => by omega)
end Md2
