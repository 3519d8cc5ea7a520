/-! A new TarYard: its world. -/
def X0 (h : AH) : AH := hnew h (eO 7 (tD 7)) 7
def X1 (h : AH) : AH := nTp (X0 h)
def X2 (h : AH) : AH := nWr (X1 h) (h.2.1 + 1)
def X3 (h : AH) : AH := nRd (X2 h) (h.2.1 + 1)
def X4 (h : AH) : AH := nRow (X3 h)
def X5 (h : AH) : AH := nTrF (X4 h) 30
def X6 (h : AH) : AH := nTrF (X5 h) 30
def nTY (h : AH) : AH := hput (X6 h) h.2.1 (eO 7 [aR (h.2.1 + 1), aR (h.2.1 + 4), aR (h.2.1 + 7), aR (h.2.1 + 12), aR (h.2.1 + 14), aR (h.2.1 + 167), aI (-1)])
theorem X0_2 (h : AH) : (X0 h).2.1 = h.2.1 + 1 := rfl
theorem X1_2 (h : AH) : (X1 h).2.1 = h.2.1 + 4 := rfl
theorem X2_2 (h : AH) : (X2 h).2.1 = h.2.1 + 7 := rfl
theorem X3_2 (h : AH) : (X3 h).2.1 = h.2.1 + 12 := rfl
theorem X4_2 (h : AH) : (X4 h).2.1 = h.2.1 + 14 := rfl
theorem X5_2 (h : AH) : (X5 h).2.1 = h.2.1 + 167 := by
  unfold X5
  rw [nTrF_2, X4_2]
theorem X6_2 (h : AH) : (X6 h).2.1 = h.2.1 + 320 := by
  unfold X6
  rw [nTrF_2, X5_2]
theorem X5_k (h : AH) : (X5 h).2.2.2 = h.2.2.2 ∧ (X5 h).2.2.1 = h.2.2.1 + 1498 := by
  unfold X5
  have := nTrF_k (X4 h) 30
  refine ⟨this.1, ?_⟩
  rw [this.2]
  show h.2.2.1 + 7 + 1 + 18 + 3 + 18 + 14 + 18 + 18 + 18 + 63 + 44 * 30 = _
  omega
theorem X6_k (h : AH) : (X6 h).2.2.2 = h.2.2.2 ∧ (X6 h).2.2.1 = h.2.2.1 + 2881 := by
  unfold X6
  have := nTrF_k (X5 h) 30
  have k := X5_k h
  refine ⟨this.1.trans k.1, ?_⟩
  rw [this.2, k.2]
section TyNew
variable {h : AH} {d : Nat}
theorem c_tyNew (hd3 : 3 ≤ d) (hb : h.2.2.2.1 ≤ h.2.1) : Cal d yTY_init [aR h.2.1] (hnew h (eO 7 (tD 7)) 7) (RV none (fun h2 => h2 = nTY h)) := by
  have hc0 : (X0 h).1 h.2.1 = some (eO 7 (tD 7)) := hnew_eq
  have k5 := (X5_k h).1
  have k6 := (X6_k h).1
  show Go _ _ 0 [aR h.2.1] [] (X0 h) _
  refine g_aload_n rfl rfl ?_
  refine g_obj rfl rfl rfl (Nat.le_of_ble_eq_true rfl) ?_
  refine g_aload_n rfl rfl ?_
  refine g_new (ci := 3) rfl rfl rfl ?_
  refine g_dup rfl rfl ?_
  refine g_I (z := yTp_init) (e := 1) (A := []) (rest := [aR (X0 h).2.1, aR h.2.1]) rfl rfl rfl rfl rfl rfl (by omega) (c_tpNew (h := (X0 h)) (by omega) (show h.2.2.2.1 ≤ _ by rw [X0_2]; omega)) ?_
  intro hh0 hz
  have hq : hh0 = X1 h := hz
  subst hq
  rw [show (X0 h).2.1 = h.2.1 + 1 from rfl]
  refine g_put (ci := 7) (kk := 0) (fs' := [aR (h.2.1 + 1), aN, aN, aN, aN, aN, aI 0]) rfl rfl (show (X1 h).1 h.2.1 = some (eO 7 (tD 7)) from by unfold X1 nTp; rw [hput_ne (by rw [X0_2]; omega), nRow_old _ (by rw [hnew_2, X0_2]; omega), hnew_ne (by rw [X0_2]; omega)]; exact hc0) (show _ ≤ _ from hb) (Nat.le_of_ble_eq_true rfl) rfl (by decide) rfl ?_
  refine g_aload_n rfl rfl ?_
  refine g_new (ci := 6) rfl rfl rfl ?_
  refine g_dup rfl rfl ?_
  refine g_aload_n rfl rfl ?_
  refine g_get (ci := 7) (kk := 0) rfl rfl ((hnew_ne (by rw [hput_2, X1_2]; omega)).trans hput_eq) (show _ ≤ _ from hb) rfl ?_
  refine g_I (z := yWr_init) (e := 1) (A := [aR (h.2.1 + 1)]) (rest := [aR (hput (X1 h) h.2.1 (eO 7 [aR (h.2.1 + 1), aN, aN, aN, aN, aN, aI 0])).2.1, aR h.2.1]) rfl rfl rfl rfl rfl rfl (by omega) (c_wrNew (h := (hput (X1 h) h.2.1 (eO 7 [aR (h.2.1 + 1), aN, aN, aN, aN, aN, aI 0]))) (by omega) (show h.2.2.2.1 ≤ _ by rw [hput_2, X1_2]; omega)) ?_
  intro hh1 hz
  have hq : hh1 = hput (X2 h) h.2.1 (eO 7 [aR (h.2.1 + 1), aN, aN, aN, aN, aN, aI 0]) := hz.trans (nWr_put _ (by rw [X1_2]; omega))
  subst hq
  rw [show (hput (X1 h) h.2.1 (eO 7 [aR (h.2.1 + 1), aN, aN, aN, aN, aN, aI 0])).2.1 = h.2.1 + 4 from by rw [hput_2, X1_2]]
  refine g_put (ci := 7) (kk := 1) (fs' := [aR (h.2.1 + 1), aR (h.2.1 + 4), aN, aN, aN, aN, aI 0]) rfl rfl hput_eq (show _ ≤ _ from hb) (Nat.le_of_ble_eq_true rfl) rfl (by decide) rfl ?_
  rw [hput_hput]
  refine g_aload_n rfl rfl ?_
  refine g_new (ci := 1) rfl rfl rfl ?_
  refine g_dup rfl rfl ?_
  refine g_aload_n rfl rfl ?_
  refine g_get (ci := 7) (kk := 0) rfl rfl ((hnew_ne (by rw [hput_2, X2_2]; omega)).trans hput_eq) (show _ ≤ _ from hb) rfl ?_
  refine g_I (z := yRd_init) (e := 1) (A := [aR (h.2.1 + 1)]) (rest := [aR (hput (X2 h) h.2.1 (eO 7 [aR (h.2.1 + 1), aR (h.2.1 + 4), aN, aN, aN, aN, aI 0])).2.1, aR h.2.1]) rfl rfl rfl rfl rfl rfl (by omega) (c_rdNew (h := (hput (X2 h) h.2.1 (eO 7 [aR (h.2.1 + 1), aR (h.2.1 + 4), aN, aN, aN, aN, aI 0]))) (by omega) (show h.2.2.2.1 ≤ _ by rw [hput_2, X2_2]; omega)) ?_
  intro hh2 hz
  have hq : hh2 = hput (X3 h) h.2.1 (eO 7 [aR (h.2.1 + 1), aR (h.2.1 + 4), aN, aN, aN, aN, aI 0]) := hz.trans (nRd_put _ (by rw [X2_2]; omega))
  subst hq
  rw [show (hput (X2 h) h.2.1 (eO 7 [aR (h.2.1 + 1), aR (h.2.1 + 4), aN, aN, aN, aN, aI 0])).2.1 = h.2.1 + 7 from by rw [hput_2, X2_2]]
  refine g_put (ci := 7) (kk := 2) (fs' := [aR (h.2.1 + 1), aR (h.2.1 + 4), aR (h.2.1 + 7), aN, aN, aN, aI 0]) rfl rfl hput_eq (show _ ≤ _ from hb) (Nat.le_of_ble_eq_true rfl) rfl (by decide) rfl ?_
  rw [hput_hput]
  refine g_aload_n rfl rfl ?_
  refine g_new (ci := 2) rfl rfl rfl ?_
  refine g_dup rfl rfl ?_
  refine g_I (z := yRw_init) (e := 1) (A := []) (rest := [aR (hput (X3 h) h.2.1 (eO 7 [aR (h.2.1 + 1), aR (h.2.1 + 4), aR (h.2.1 + 7), aN, aN, aN, aI 0])).2.1, aR h.2.1]) rfl rfl rfl rfl rfl rfl (by omega) (c_rwNew (h := (hput (X3 h) h.2.1 (eO 7 [aR (h.2.1 + 1), aR (h.2.1 + 4), aR (h.2.1 + 7), aN, aN, aN, aI 0]))) (show h.2.2.2.1 ≤ _ by rw [hput_2, X3_2]; omega)) ?_
  intro hh3 hz
  have hq : hh3 = hput (X4 h) h.2.1 (eO 7 [aR (h.2.1 + 1), aR (h.2.1 + 4), aR (h.2.1 + 7), aN, aN, aN, aI 0]) := hz.trans (nRow_put _ (by rw [X3_2]; omega))
  subst hq
  rw [show (hput (X3 h) h.2.1 (eO 7 [aR (h.2.1 + 1), aR (h.2.1 + 4), aR (h.2.1 + 7), aN, aN, aN, aI 0])).2.1 = h.2.1 + 12 from by rw [hput_2, X3_2]]
  refine g_put (ci := 7) (kk := 3) (fs' := [aR (h.2.1 + 1), aR (h.2.1 + 4), aR (h.2.1 + 7), aR (h.2.1 + 12), aN, aN, aI 0]) rfl rfl hput_eq (show _ ≤ _ from hb) (Nat.le_of_ble_eq_true rfl) rfl (by decide) rfl ?_
  rw [hput_hput]
  refine g_aload_n rfl rfl ?_
  refine g_new (ci := 4) rfl rfl rfl ?_
  refine g_dup rfl rfl ?_
  refine g_I (z := yTr_init) (e := 1) (A := []) (rest := [aR (hput (X4 h) h.2.1 (eO 7 [aR (h.2.1 + 1), aR (h.2.1 + 4), aR (h.2.1 + 7), aR (h.2.1 + 12), aN, aN, aI 0])).2.1, aR h.2.1]) rfl rfl rfl rfl rfl rfl (by omega) (c_trNew (h := (hput (X4 h) h.2.1 (eO 7 [aR (h.2.1 + 1), aR (h.2.1 + 4), aR (h.2.1 + 7), aR (h.2.1 + 12), aN, aN, aI 0]))) (by omega) (show h.2.2.2.1 ≤ _ by rw [hput_2, X4_2]; omega)) ?_
  intro hh4 hz
  have hq : hh4 = hput (X5 h) h.2.1 (eO 7 [aR (h.2.1 + 1), aR (h.2.1 + 4), aR (h.2.1 + 7), aR (h.2.1 + 12), aN, aN, aI 0]) := hz.trans (nTrF_put _ (by rw [X4_2]; omega) 30)
  subst hq
  rw [show (hput (X4 h) h.2.1 (eO 7 [aR (h.2.1 + 1), aR (h.2.1 + 4), aR (h.2.1 + 7), aR (h.2.1 + 12), aN, aN, aI 0])).2.1 = h.2.1 + 14 from by rw [hput_2, X4_2]]
  refine g_put (ci := 7) (kk := 4) (fs' := [aR (h.2.1 + 1), aR (h.2.1 + 4), aR (h.2.1 + 7), aR (h.2.1 + 12), aR (h.2.1 + 14), aN, aI 0]) rfl rfl hput_eq (by show (X5 h).2.2.2.1 ≤ _; rw [k5]; exact hb) (Nat.le_of_ble_eq_true rfl) rfl (by decide) rfl ?_
  rw [hput_hput]
  refine g_aload_n rfl rfl ?_
  refine g_new (ci := 4) rfl rfl rfl ?_
  refine g_dup rfl rfl ?_
  refine g_I (z := yTr_init) (e := 1) (A := []) (rest := [aR (hput (X5 h) h.2.1 (eO 7 [aR (h.2.1 + 1), aR (h.2.1 + 4), aR (h.2.1 + 7), aR (h.2.1 + 12), aR (h.2.1 + 14), aN, aI 0])).2.1, aR h.2.1]) rfl rfl rfl rfl rfl rfl (by omega) (c_trNew (h := (hput (X5 h) h.2.1 (eO 7 [aR (h.2.1 + 1), aR (h.2.1 + 4), aR (h.2.1 + 7), aR (h.2.1 + 12), aR (h.2.1 + 14), aN, aI 0]))) (by omega) (by rw [hput_2, X5_2]; show (X5 h).2.2.2.1 ≤ _; rw [k5]; omega)) ?_
  intro hh5 hz
  have hq : hh5 = hput (X6 h) h.2.1 (eO 7 [aR (h.2.1 + 1), aR (h.2.1 + 4), aR (h.2.1 + 7), aR (h.2.1 + 12), aR (h.2.1 + 14), aN, aI 0]) := hz.trans (nTrF_put _ (by rw [X5_2]; omega) 30)
  subst hq
  rw [show (hput (X5 h) h.2.1 (eO 7 [aR (h.2.1 + 1), aR (h.2.1 + 4), aR (h.2.1 + 7), aR (h.2.1 + 12), aR (h.2.1 + 14), aN, aI 0])).2.1 = h.2.1 + 167 from by rw [hput_2, X5_2]]
  refine g_put (ci := 7) (kk := 5) (fs' := [aR (h.2.1 + 1), aR (h.2.1 + 4), aR (h.2.1 + 7), aR (h.2.1 + 12), aR (h.2.1 + 14), aR (h.2.1 + 167), aI 0]) rfl rfl hput_eq (by show (X6 h).2.2.2.1 ≤ _; rw [k6]; exact hb) (Nat.le_of_ble_eq_true rfl) rfl (by decide) rfl ?_
  rw [hput_hput]
  refine g_aload_n rfl rfl ?_
  refine g_iconst (n := -1) rfl (by decide) ?_
  refine g_put (ci := 7) (kk := 6) (fs' := [aR (h.2.1 + 1), aR (h.2.1 + 4), aR (h.2.1 + 7), aR (h.2.1 + 12), aR (h.2.1 + 14), aR (h.2.1 + 167), aI (-1)]) rfl rfl hput_eq (by show (X6 h).2.2.2.1 ≤ _; rw [k6]; exact hb) (Nat.le_of_ble_eq_true rfl) rfl (by decide) rfl ?_
  rw [hput_hput]
  exact r_v rfl rfl rfl
end TyNew
/-- where the cells of a new TarYard lie, by their codes -/
def ofR (c : Nat) : Nat := if c < 60 then 17 + 5 * (c / 2) + 1 + 2 * (c % 2) else if c < 120 then 170 + 5 * (c / 2 - 30) + 1 + 2 * (c % 2) else if c = 120 then 12 else if c = 121 then 2 else if c = 122 then 5 else if c = 123 then 8 else 10
def ofC (c : Nat) : Nat := if c < 125 then ofR c else if c < 325 then ofR (c - 200) + 1 else if c < 430 then 17 + 5 * (c - 400) else if c < 460 then 170 + 5 * (c - 430) else if c = 500 then 14 else if c = 501 then 167 else if c = 510 then 15 else if c = 511 then 168 else if c = 520 then 16 else if c = 521 then 169 else if c = 530 then 1 else if c = 531 then 4 else if c = 532 then 7 else 0
def ofI (k : Nat) : Nat := if k = 0 then 533 else if k = 1 then 530 else if k = 2 then 121 else if k = 3 then 321 else if k = 4 then 531 else if k = 5 then 122 else if k = 6 then 322 else if k = 7 then 532 else if k = 8 then 123 else if k = 9 then 323 else if k = 10 then 124 else if k = 11 then 324 else if k = 12 then 120 else if k = 13 then 320 else if k = 14 then 500 else if k = 15 then 510 else if k = 16 then 520 else if k = 167 then 501 else if k = 168 then 511 else if k = 169 then 521 else if k < 167 then (if (k - 17) % 5 = 0 then 400 + (k - 17) / 5 else if (k - 17) % 5 = 1 then 2 * ((k - 17) / 5) else if (k - 17) % 5 = 2 then 200 + 2 * ((k - 17) / 5) else if (k - 17) % 5 = 3 then 2 * ((k - 17) / 5) + 1 else 201 + 2 * ((k - 17) / 5)) else (if (k - 170) % 5 = 0 then 430 + (k - 170) / 5 else if (k - 170) % 5 = 1 then 60 + 2 * ((k - 170) / 5) else if (k - 170) % 5 = 2 then 260 + 2 * ((k - 170) / 5) else if (k - 170) % 5 = 3 then 61 + 2 * ((k - 170) / 5) else 261 + 2 * ((k - 170) / 5))
theorem ofI_R {c : Nat} (h : c < 125) : ofI (ofR c) = c ∧ ofI (ofR c + 1) = 200 + c ∧ ofR c + 1 < 320 := by
  by_cases h1 : c < 120
  · obtain ⟨j, b, hb, rfl⟩ : ∃ j b, b < 2 ∧ c = 2 * j + b := ⟨c / 2, c % 2, by omega, by omega⟩
    have e1 : (2 * j + b) / 2 = j := by omega
    have e2 : (2 * j + b) % 2 = b := by omega
    by_cases hj : j < 30
    · have e3 : ofR (2 * j + b) = 17 + 5 * j + 1 + 2 * b := by unfold ofR; rw [if_pos (by omega), e1, e2]
      rw [e3]
      rcases (by omega : b = 0 ∨ b = 1) with q | q <;> subst q
      · refine ⟨?_, ?_, by omega⟩
        · unfold ofI
          simp (disch := omega) only [if_pos, if_neg]
          omega
        · unfold ofI
          simp (disch := omega) only [if_pos, if_neg]
          omega
      · refine ⟨?_, ?_, by omega⟩
        · unfold ofI
          simp (disch := omega) only [if_pos, if_neg]
          omega
        · unfold ofI
          simp (disch := omega) only [if_pos, if_neg]
          omega
    · have e3 : ofR (2 * j + b) = 170 + 5 * (j - 30) + 1 + 2 * b := by unfold ofR; rw [if_neg (by omega), if_pos (by omega), e1, e2]
      rw [e3]
      rcases (by omega : b = 0 ∨ b = 1) with q | q <;> subst q
      · refine ⟨?_, ?_, by omega⟩
        · unfold ofI
          simp (disch := omega) only [if_pos, if_neg]
          omega
        · unfold ofI
          simp (disch := omega) only [if_pos, if_neg]
          omega
      · refine ⟨?_, ?_, by omega⟩
        · unfold ofI
          simp (disch := omega) only [if_pos, if_neg]
          omega
        · unfold ofI
          simp (disch := omega) only [if_pos, if_neg]
          omega
  · rcases (by omega : c = 120 ∨ c = 121 ∨ c = 122 ∨ c = 123 ∨ c = 124) with q | q | q | q | q <;> subst q <;> decide
theorem ofI_C {c : Nat} (h : dm c) : ofI (ofC c) = c ∧ ofC c < 320 := by
  rcases h with h | h | h | h
  · have e : ofC c = ofR c := if_pos h
    have := ofI_R h
    rw [e]
    exact ⟨this.1, by omega⟩
  · have e : ofC c = ofR (c - 200) + 1 := by unfold ofC; rw [if_neg (by omega), if_pos (by omega)]
    have := ofI_R (c := c - 200) (by omega)
    rw [e, this.2.1]
    exact ⟨by omega, by omega⟩
  · by_cases h2 : c < 430
    · have e : ofC c = 17 + 5 * (c - 400) := by unfold ofC; rw [if_neg (by omega), if_neg (by omega), if_pos h2]
      rw [e]
      refine ⟨?_, by omega⟩
      unfold ofI
      simp (disch := omega) only [if_pos, if_neg]
      omega
    · have e : ofC c = 170 + 5 * (c - 430) := by unfold ofC; rw [if_neg (by omega), if_neg (by omega), if_neg h2, if_pos (by omega)]
      rw [e]
      refine ⟨?_, by omega⟩
      unfold ofI
      simp (disch := omega) only [if_pos, if_neg]
      omega
  · rcases (by omega : c = 500 ∨ c = 501 ∨ c = 510 ∨ c = 511 ∨ c = 520 ∨ c = 521 ∨ c = 530 ∨ c = 531 ∨ c = 532 ∨ c = 533) with q | q | q | q | q | q | q | q | q | q <;> subst q <;> decide
