/-! TarYard.read: the other tree stays. -/
/-- only the node j of the tree u has changed -/
def frJ (st s : CS) (u j : Nat) : Prop := s.2.2.1 = st.2.2.1 ∧ (∀ n, n ≠ j → s.2.1 n = st.2.1 n) ∧ (∀ r, r ≠ 2 * j → r ≠ 2 * j + 1 → s.1 r = st.1 r) ∧ (∀ t, t ≠ u → s.2.2.2.1 t = st.2.2.2.1 t) ∧ s.2.2.2.2.2 = st.2.2.2.2.2
theorem frJ.se {st s : CS} {u j t : Nat} (h : frJ st s u j) (hs : shp st) (ht : t < 2) (hu : u < 2) (hne : t ≠ u) (hj : 30 * u ≤ j ∧ j < 30 * u + 30) : SE st s t := by
  obtain ⟨h1, h2, h3, h4, h5⟩ := h
  have e : ∀ i, i < (st.2.2.2.1 t) → st.2.2.1 t i ≠ j := fun i hi q => by
    have := hs.1 t i ht (by have := (hs.2.2.1 t ht).2; omega)
    omega
  refine ⟨⟨h4 t hne, fun i hi => ?_⟩, h3 121 (by omega) (by omega), by rw [h5], by rw [h5]⟩
  have := e i hi
  rw [h1]
  exact ⟨fun k _ => by rw [h2 _ this], h3 _ (by omega) (by omega), h3 _ (by omega) (by omega)⟩
theorem frJ_tkS {st : CS} {u : Nat} (L B : List Int) (D k z M O U : Int) : frJ st (tkS st u L B D k z M O U) u (st.2.2.1 u ((st.2.2.2.1 u))) := by
  have e : frJ st (tkN st u L D k z M O U) u (st.2.2.1 u ((st.2.2.2.1 u))) := by
    refine ⟨rfl, fun n hn => ?_, fun r h1 h2 => ?_, fun t ht => ?_, rfl⟩
    · simp [tkN, trAl, bgn, uN, uR, uC, va_up, hn]
    · simp [tkN, trAl, bgn, uN, uR, uC, va_up, h1, h2]
    · simp [tkN, trAl, bgn, uN, uR, uC, va_up, ht]
  unfold tkS
  split
  · obtain ⟨e1, e2, e3, e4, e5⟩ := e
    refine ⟨e1, e2, fun r h1 h2 => ?_, e4, e5⟩
    rw [uR_ne _ _ h2]
    exact e3 r h1 h2
  · exact e
theorem frJ_clr {st : CS} {u : Nat} : frJ st (clrS st u) u (st.2.2.1 u 0) := by
  refine ⟨rfl, fun n hn => ?_, fun r h1 h2 => ?_, fun t ht => ?_, rfl⟩
  · simp [clrS, bgn, uN, uR, uC, va_up, hn]
  · simp [clrS, bgn, uN, uR, uC, va_up, h1, h2]
  · simp [clrS, bgn, uN, uR, uC, va_up, ht]
theorem tkS_C {st : CS} {u : Nat} (L B : List Int) (D k z M O U : Int) : ((tkS st u L B D k z M O U).2.2.2.1 u) = (st.2.2.2.1 u) + 1 := by
  have e : ((tkN st u L D k z M O U).2.2.2.1 u) = (st.2.2.2.1 u) + 1 := by simp [tkN, trAl, uN, uC, va_up]
  unfold tkS
  split
  · exact e
  · exact e
theorem frJ.shp {st s : CS} {u j : Nat} (h : frJ st s u j) (hs : shp st) (hc : 1 ≤ (s.2.2.2.1 u) ∧ (s.2.2.2.1 u) ≤ 30) : shp s := by
  obtain ⟨h1, h2, h3, h4, h5⟩ := h
  obtain ⟨q1, q2, q3, q4⟩ := hs
  refine ⟨by rw [h1]; exact q1, by rw [h1]; exact q2, fun t ht => ?_, by rw [h5]; exact q4⟩
  by_cases e : t = u
  · rw [e]; exact hc
  · rw [h4 t e]; exact q3 t ht
theorem SE.tr {st s s' : CS} {t : Nat} (h : SE st s t) (h' : SE s s' t) : SE st s' t := ⟨h.1.tr h'.1, h'.2.1.trans h.2.1, h'.2.2.1.trans h.2.2.1, h'.2.2.2.trans h.2.2.2⟩
theorem trF_se {t u : Nat} (ht : t < 2) (hu : u < 2) (hne : t ≠ u) (l : List Int) : ∀ (n : Nat) (st : CS) (b : Int), shp st → SE st (trF u l n st b).2.1 t ∧ shp (trF u l n st b).2.1 := by
  intro n
  induction n with
  | zero => intro st b hs; exact ⟨SE.rf _ _, hs⟩
  | succ n ih =>
    intro st b hs
    by_cases hz : zbR l b ∧ zbR l (b + 1)
    · rw [show trF u l (n + 1) st b = (((st.2.2.2.1 u) : Int), st, b) from @if_pos _ (Classical.propDecidable _) hz _ _ _]
      exact ⟨SE.rf _ _, hs⟩
    · by_cases hf : feR st u l b = 0
      · rw [show trF u l (n + 1) st b = trF u l n (tkE st u l b) (b + (1 + (lnR l b + 511) / 512)) from (@if_neg _ (Classical.propDecidable _) hz _ _ _).trans (if_pos hf)]
        have hc := (feR_0 hf).2.2.2.2.2.1
        have hj := hs.1 u ((st.2.2.2.1 u)) hu hc
        have h1 := (hs.2.2.1 u hu).1
        have hfr : frJ st (tkE st u l b) u (st.2.2.1 u ((st.2.2.2.1 u))) := frJ_tkS _ _ _ _ _ _ _ _
        have hcc : ((tkE st u l b).2.2.2.1 u) = (st.2.2.2.1 u) + 1 := tkS_C _ _ _ _ _ _ _ _
        obtain ⟨i1, i2⟩ := ih (tkE st u l b) (b + (1 + (lnR l b + 511) / 512)) (hfr.shp hs (by omega))
        exact ⟨(hfr.se hs ht hu hne hj).tr i1, i2⟩
      · rw [show trF u l (n + 1) st b = (-(feR st u l b), st, b) from (@if_neg _ (Classical.propDecidable _) hz _ _ _).trans (if_neg hf)]
        exact ⟨SE.rf _ _, hs⟩
theorem trT_se {st : CS} {t u : Nat} (ht : t < 2) (hu : u < 2) (hne : t ≠ u) (hs : shp st) : SE st (trT st u).2.1 t ∧ shp (trT st u).2.1 := by
  obtain ⟨n, hn⟩ : ∃ n, n = 21 := ⟨21, rfl⟩
  rw [trT_n hn]
  have hj := hs.1 u 0 hu (by omega)
  have hcc : ((clrS st u).2.2.2.1 u) = 1 := by simp [clrS, uC, va_up]
  obtain ⟨i1, i2⟩ := trF_se ht hu hne (st.1 121) n (clrS st u) 0 (frJ_clr.shp hs (by omega))
  exact ⟨(frJ_clr.se hs ht hu hne hj).tr i1, i2⟩
section TY3C
variable {K : KE} {h : AH} {g : Nat → Nat} {st : CS} {cb sb : Nat} {d t : Nat}
theorem ty_set (hW : WC K h g st cb sb) {t' : Nat} (ht : t' < 2) (f : Int) : WC K (hput h (g 533) (eO 7 [aR (g 530), aR (g 531), aR (g 532), aR (g 120), aR (g (500 + t')), aR (g (501 - t')), aI f])) g (uM (uM st 0 (t' : Int)) 1 f) cb sb := by
  refine hW.set (c0 := 533) dm_533 (by omega) rfl rfl (fun c hc h3 hne => ?_) ?_
  · by_cases h4 : c < 531
    · unfold cel
      simp only [if_neg (show ¬ c < 125 by omega), if_neg (show ¬ c < 325 by omega)]
      by_cases h5 : c < 460
      · simp only [if_pos h5]; rfl
      · simp only [if_neg h5]
        by_cases h6 : c < 502
        · simp only [if_pos h6]; rfl
        · simp only [if_neg h6]
          by_cases h7 : c < 512
          · simp only [if_pos h7]; rfl
          · simp only [if_neg h7]
            by_cases h8 : c < 522
            · simp only [if_pos h8]; rfl
            · have h9 : c = 530 := by rcases hc with h | h | h | h <;> omega
              simp only [if_neg h8, if_pos h9]
    · rcases (by rcases hc with h | h | h | h <;> omega : c = 531 ∨ c = 532) with q | q <;> subst q <;> rfl
  · obtain ⟨q1, q2, q3, q4⟩ := hW.shq
    refine ⟨q1, q2, q3, ?_⟩
    show (t' : Int) = 0 ∨ (t' : Int) = 1
    omega
theorem c_read (hd7 : 7 ≤ d) (hK : KOK K) (hW : WC K h g st cb sb) (ht : t < 2) (ht0 : st.2.2.2.2.2 0 = (t : Int)) : Cal d yTY_read [aR (g 533)] h (RV (some (aI (trT st (1 - t)).1)) (fun h2 => ∃ s, WC K h2 g s cb sb ∧ s.1 121 = st.1 121 ∧ ((trT st (1 - t)).1 < 0 → VQ st s t ∧ s.2.2.2.2.2 0 = (t : Int) ∧ s.2.2.2.2.2 1 = (trT st (1 - t)).2.2) ∧ (0 ≤ (trT st (1 - t)).1 → VQ (trT st (1 - t)).2.1 s (1 - t) ∧ s.2.2.2.2.2 0 = ((1 - t : Nat) : Int) ∧ s.2.2.2.2.2 1 = -1))) := by
  have hu : 1 - t < 2 := by omega
  obtain ⟨hse, hs2⟩ := trT_se (st := st) ht hu (by omega) hW.shq
  rw [← rT_self st] at hW
  generalize st.1 123 = P at hW
  generalize st.1 124 = T at hW
  generalize st.2.2.2.2.2 13 = e0 at hW
  generalize st.2.2.2.2.2 14 = e1 at hW
  generalize st.2.2.2.2.2 15 = e2 at hW
  generalize st.2.2.2.2.2 16 = e3 at hW
  generalize st.2.2.2.2.2 17 = e4 at hW
  generalize st.2.2.2.2.2 18 = e5 at hW
  generalize st.2.2.2.2.2 19 = e6 at hW
  generalize st.2.2.2.2.2 20 = e7 at hW
  generalize st.2.2.2.2.2 21 = e8 at hW
  generalize st.2.2.2.2.2 22 = e9 at hW
  generalize st.2.2.2.2.2 23 = e10 at hW
  have e501 : g (501 - t) = g (500 + (1 - t)) := by rw [show 501 - t = 500 + (1 - t) by omega]
  show Go _ _ 0 [aR (g 533), none, none] [] _ _
  refine g_aload_n rfl rfl ?_
  refine g_get (ci := 7) (kk := 2) rfl rfl (hW.ty ht0 ht) hW.tyb rfl ?_
  refine g_aload_n rfl rfl ?_
  refine g_get (ci := 7) (kk := 5) rfl rfl (hW.ty ht0 ht) hW.tyb rfl ?_
  refine g_V (z := yRd_takeTree) (e := 1) (A := [aR (g (501 - t))]) (rest := []) (v := aI ((trT st (1 - t)).1))  rfl rfl rfl rfl rfl rfl (by omega) hW.rd hW.rdb (e501 ▸ c_takeTree (by omega) hK hW hu) ?_
  intro hh1 hq
  obtain ⟨P', T', f1, f2, f3, f4, f5, f6, f7, f8, f9, f10, hW⟩ := hq
  have ht1 : (rT (trT st (1 - t)).2.1 P' T' (trT st (1 - t)).2.2 f1 f2 f3 f4 f5 f6 f7 f8 f9 f10).2.2.2.2.2 0 = (t : Int) := hse.2.2.1.trans ht0
  have hvq : ∀ u, u < 2 → VQ (trT st (1 - t)).2.1 (rT (trT st (1 - t)).2.1 P' T' (trT st (1 - t)).2.2 f1 f2 f3 f4 f5 f6 f7 f8 f9 f10) u := fun u hu => rT_vq hs2 hu
  refine g_istore_n (L' := [aR (g 533), aI ((trT st (1 - t)).1), none]) rfl rfl ?_
  refine g_iload_n rfl rfl ?_
  refine g_ifge rfl rfl (fun c2 => ?_) (fun c2 => ?_)
  · skip
    have cA := c2
    refine g_aload_n rfl rfl ?_
    refine g_get (ci := 7) (kk := 4) rfl rfl (hW.ty ht1 ht) hW.tyb rfl ?_
    refine g_astore_n (L' := [aR (g 533), aI ((trT st (1 - t)).1), aR (g (500 + t))]) rfl rfl ?_
    refine g_aload_n rfl rfl ?_
    refine g_aload_n rfl rfl ?_
    refine g_get (ci := 7) (kk := 5) rfl rfl (hW.ty ht1 ht) hW.tyb rfl ?_
    refine g_put (ci := 7) (kk := 4) (fs' := [aR (g 530), aR (g 531), aR (g 532), aR (g 120), aR (g (501 - t)), aR (g (501 - t)), aI ((trT st (1 - t)).2.1.2.2.2.2.2 1)]) rfl rfl (hW.ty ht1 ht) hW.tyb (Nat.le_of_ble_eq_true rfl) rfl (by decide) rfl ?_
    generalize hg_hh3 : hput hh1 (g 533) (eO 7 [aR (g 530), aR (g 531), aR (g 532), aR (g 120), aR (g (501 - t)), aR (g (501 - t)), aI ((trT st (1 - t)).2.1.2.2.2.2.2 1)]) = hh3
    have f2x : hh3.1 (g 533) = some (eO 7 [aR (g 530), aR (g 531), aR (g 532), aR (g 120), aR (g (501 - t)), aR (g (501 - t)), aI ((trT st (1 - t)).2.1.2.2.2.2.2 1)]) := by rw [← hg_hh3, hput_eq]
    have b2x : hh3.2.2.2.1 ≤ g 533 := by rw [← hg_hh3]; exact hW.tyb
    refine g_aload_n rfl rfl ?_
    refine g_aload_n rfl rfl ?_
    refine g_put (ci := 7) (kk := 5) (fs' := [aR (g 530), aR (g 531), aR (g 532), aR (g 120), aR (g (501 - t)), aR (g (500 + t)), aI ((trT st (1 - t)).2.1.2.2.2.2.2 1)]) rfl rfl f2x b2x (Nat.le_of_ble_eq_true rfl) rfl (by decide) rfl ?_
    generalize hg_hh4 : hput hh3 (g 533) (eO 7 [aR (g 530), aR (g 531), aR (g 532), aR (g 120), aR (g (501 - t)), aR (g (500 + t)), aI ((trT st (1 - t)).2.1.2.2.2.2.2 1)]) = hh4
    have f3x : hh4.1 (g 533) = some (eO 7 [aR (g 530), aR (g 531), aR (g 532), aR (g 120), aR (g (501 - t)), aR (g (500 + t)), aI ((trT st (1 - t)).2.1.2.2.2.2.2 1)]) := by rw [← hg_hh4, hput_eq]
    have b3x : hh4.2.2.2.1 ≤ g 533 := by rw [← hg_hh4]; exact b2x
    refine g_aload_n rfl rfl ?_
    refine g_iconst (n := -1) rfl (by decide) ?_
    refine g_put (ci := 7) (kk := 6) (fs' := [aR (g 530), aR (g 531), aR (g 532), aR (g 120), aR (g (501 - t)), aR (g (500 + t)), aI (-1)]) rfl rfl f3x b3x (Nat.le_of_ble_eq_true rfl) rfl (by decide) rfl ?_
    generalize hg_hh5 : hput hh4 (g 533) (eO 7 [aR (g 530), aR (g 531), aR (g 532), aR (g 120), aR (g (501 - t)), aR (g (500 + t)), aI (-1)]) = hh5
    have hW := ty_set hW (t' := 1 - t) hu (-1)
    rw [show g (500 + (1 - t)) = g (501 - t) from e501.symm, show 501 - (1 - t) = 500 + t by omega] at hW
    have hh9 : hput hh1 (g 533) (eO 7 [aR (g 530), aR (g 531), aR (g 532), aR (g 120), aR (g (501 - t)), aR (g (500 + t)), aI (-1)]) = hh5 := by
      rw [← hg_hh5, ← hg_hh4, ← hg_hh3, hput_hput, hput_hput]
    rw [hh9] at hW
    refine g_iload_n rfl rfl ?_
    exact r_i rfl rfl rfl ⟨_, hW, hse.2.1, fun q => by omega, fun _ => ⟨hvq (1 - t) hu, rfl, rfl⟩⟩
  · skip
    have cA := c2
    refine g_aload_n rfl rfl ?_
    refine g_aload_n rfl rfl ?_
    refine g_get (ci := 7) (kk := 2) rfl rfl (hW.ty ht1 ht) hW.tyb rfl ?_
    refine g_get (ci := 1) (kk := 3) rfl rfl (rT_rd hW) hW.rdb rfl ?_
    refine g_put (ci := 7) (kk := 6) (fs' := [aR (g 530), aR (g 531), aR (g 532), aR (g 120), aR (g (500 + t)), aR (g (501 - t)), aI ((trT st (1 - t)).2.2)]) rfl rfl (hW.ty ht1 ht) hW.tyb (Nat.le_of_ble_eq_true rfl) rfl (by decide) rfl ?_
    generalize hg_hh6 : hput hh1 (g 533) (eO 7 [aR (g 530), aR (g 531), aR (g 532), aR (g 120), aR (g (500 + t)), aR (g (501 - t)), aI ((trT st (1 - t)).2.2)]) = hh6
    have hW := ty_set hW (t' := t) ht (trT st (1 - t)).2.2
    rw [hg_hh6] at hW
    refine g_iload_n rfl rfl ?_
    exact r_i rfl rfl rfl ⟨_, hW, hse.2.1, fun _ => ⟨hse.1.tr (hvq t ht), rfl, rfl⟩, fun q => by omega⟩
end TY3C
