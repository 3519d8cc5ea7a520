def st0 : CS := (fun _ => [], fun _ k => if k = 1 then -1 else if k = 2 then -1 else 0, fun t i => 30 * t + i, fun _ => 1, fun _ _ => 0, fun k => if k = 1 then -1 else if k = 19 then -1 else if k = 20 then -1 else if k = 23 then -1 else 0)
section TyWorld
variable {h : AH} {b : Nat}
theorem up5 (h1 : h.2.1 < b) (h2 : b < h.2.1 + 167) : (nTY h).1 b = (X5 h).1 b := by
  unfold nTY
  rw [hput_ne (by omega)]
  exact nTrF_old _ (by rw [X5_2]; omega) 30
theorem up4 (h1 : h.2.1 < b) (h2 : b < h.2.1 + 14) : (nTY h).1 b = (X4 h).1 b := by
  rw [up5 h1 (by omega)]
  exact nTrF_old _ (by rw [X4_2]; omega) 30
theorem up3 (h1 : h.2.1 < b) (h2 : b < h.2.1 + 12) : (nTY h).1 b = (X3 h).1 b := by
  rw [up4 h1 (by omega)]
  exact nRow_old _ (by rw [X3_2]; omega)
theorem up2 (h1 : h.2.1 < b) (h2 : b < h.2.1 + 7) : (nTY h).1 b = (X2 h).1 b := by
  rw [up3 h1 (by omega)]
  unfold X3 nRd
  rw [hput_ne (by rw [X2_2]; omega), nRow_old _ (by rw [nRow_2, hnew_2, X2_2]; omega), nRow_old _ (by rw [hnew_2, X2_2]; omega), hnew_ne (by rw [X2_2]; omega)]
theorem up1 (h1 : h.2.1 < b) (h2 : b < h.2.1 + 4) : (nTY h).1 b = (X1 h).1 b := by
  rw [up2 h1 (by omega)]
  unfold X2 nWr
  rw [hput_ne (by rw [X1_2]; omega), nRow_old _ (by rw [hnew_2, X1_2]; omega), hnew_ne (by rw [X1_2]; omega)]
theorem c_t1 : (nTY h).1 (h.2.1 + 1) = some (eO 3 [aR (h.2.1 + 2)]) := by
  rw [up1 (by omega) (by omega)]
  exact hput_eq (h := nRow (hnew (X0 h) (eO 3 (tD 3)) 1))
theorem c_t2 : (nTY h).1 (h.2.1 + 2) = some (eO 2 [aR (h.2.1 + 3), aI 0]) ∧ (nTY h).1 (h.2.1 + 3) = some (eA 1 16 (fun _ => 0)) := by
  rw [up1 (by omega) (by omega), up1 (by omega) (by omega)]
  unfold X1 nTp
  rw [hput_ne (by rw [X0_2]; omega), hput_ne (by rw [X0_2]; omega)]
  exact ⟨nRow_at (hnew (X0 h) (eO 3 (tD 3)) 1), nRow_by (hnew (X0 h) (eO 3 (tD 3)) 1)⟩
theorem c_t4 : (nTY h).1 (h.2.1 + 4) = some (eO 6 [aR (h.2.1 + 1), aR (h.2.1 + 5), aI 0]) := by
  rw [up2 (by omega) (by omega)]
  exact hput_eq (h := nRow (hnew (X1 h) (eO 6 (tD 6)) 3))
theorem c_t5 : (nTY h).1 (h.2.1 + 5) = some (eO 2 [aR (h.2.1 + 6), aI 0]) ∧ (nTY h).1 (h.2.1 + 6) = some (eA 1 16 (fun _ => 0)) := by
  rw [up2 (by omega) (by omega), up2 (by omega) (by omega)]
  unfold X2 nWr
  rw [hput_ne (by rw [X1_2]; omega), hput_ne (by rw [X1_2]; omega)]
  exact ⟨nRow_at (hnew (X1 h) (eO 6 (tD 6)) 3), nRow_by (hnew (X1 h) (eO 6 (tD 6)) 3)⟩
theorem c_t7 : (nTY h).1 (h.2.1 + 7) = some (eO 1 [aR (h.2.1 + 1), aR (h.2.1 + 8), aR (h.2.1 + 10), aI 0, aI 0, aL 0, aL 0, aL 0, aL 0, aI (-1), aI (-1), aI 0, aI 0, aI (-1)]) := by
  rw [up3 (by omega) (by omega)]
  exact hput_eq (h := nRow (nRow (hnew (X2 h) (eO 1 (tD 1)) 14)))
theorem c_t8 : (nTY h).1 (h.2.1 + 8) = some (eO 2 [aR (h.2.1 + 9), aI 0]) ∧ (nTY h).1 (h.2.1 + 9) = some (eA 1 16 (fun _ => 0)) := by
  rw [up3 (by omega) (by omega), up3 (by omega) (by omega)]
  unfold X3 nRd
  rw [hput_ne (by rw [X2_2]; omega), hput_ne (by rw [X2_2]; omega), nRow_old (nRow (hnew (X2 h) (eO 1 (tD 1)) 14)) (b := h.2.1 + 8) (by rw [nRow_2, hnew_2, X2_2]; omega), nRow_old (nRow (hnew (X2 h) (eO 1 (tD 1)) 14)) (b := h.2.1 + 9) (by rw [nRow_2, hnew_2, X2_2]; omega)]
  exact ⟨nRow_at (hnew (X2 h) (eO 1 (tD 1)) 14), nRow_by (hnew (X2 h) (eO 1 (tD 1)) 14)⟩
theorem c_t10 : (nTY h).1 (h.2.1 + 10) = some (eO 2 [aR (h.2.1 + 11), aI 0]) ∧ (nTY h).1 (h.2.1 + 11) = some (eA 1 16 (fun _ => 0)) := by
  rw [up3 (by omega) (by omega), up3 (by omega) (by omega)]
  unfold X3 nRd
  rw [hput_ne (by rw [X2_2]; omega), hput_ne (by rw [X2_2]; omega)]
  exact ⟨nRow_at (nRow (hnew (X2 h) (eO 1 (tD 1)) 14)), nRow_by (nRow (hnew (X2 h) (eO 1 (tD 1)) 14))⟩
theorem c_t12 : (nTY h).1 (h.2.1 + 12) = some (eO 2 [aR (h.2.1 + 13), aI 0]) ∧ (nTY h).1 (h.2.1 + 13) = some (eA 1 16 (fun _ => 0)) := by
  rw [up4 (by omega) (by omega), up4 (by omega) (by omega)]
  exact ⟨nRow_at (X3 h), nRow_by (X3 h)⟩
theorem c_t14 : (nTY h).1 (h.2.1 + 14) = some (eO 4 [aR (h.2.1 + 15), aI 1, aR (h.2.1 + 16)]) ∧ (nTY h).1 (h.2.1 + 15) = some (eQ 3 30 (arN (h.2.1 + 14) 30)) ∧ (nTY h).1 (h.2.1 + 16) = some (eA 0 30 (fun _ => 0)) := by
  rw [up5 (by omega) (by omega), up5 (by omega) (by omega), up5 (by omega) (by omega)]
  exact nTrF_top (X4 h) 30
theorem c_t167 : (nTY h).1 (h.2.1 + 167) = some (eO 4 [aR (h.2.1 + 168), aI 1, aR (h.2.1 + 169)]) ∧ (nTY h).1 (h.2.1 + 168) = some (eQ 3 30 (arN (h.2.1 + 167) 30)) ∧ (nTY h).1 (h.2.1 + 169) = some (eA 0 30 (fun _ => 0)) := by
  have k := nTrF_top (X5 h) 30
  rw [X5_2] at k
  unfold nTY
  rw [hput_ne (by omega), hput_ne (by omega), hput_ne (by omega)]
  exact k
theorem c_tn {j k : Nat} (hj : j < 30) (hk : k < 5) : (nTY h).1 (h.2.1 + 17 + 5 * j + k) = some (ndc (h.2.1 + 17 + 5 * j) k) := by
  rw [up5 (by omega) (by omega)]
  exact nTrF_cell (X4 h) 30 j k hj hk
theorem c_tm {j k : Nat} (hj : j < 30) (hk : k < 5) : (nTY h).1 (h.2.1 + 170 + 5 * j + k) = some (ndc (h.2.1 + 170 + 5 * j) k) := by
  have q := nTrF_cell (X5 h) 30 j k hj hk
  rw [X5_2] at q
  unfold nTY
  rw [hput_ne (by omega)]
  exact q
theorem ndc_1 (a : Nat) : ndc a 1 = eO 2 [aR (a + 2), aI 0] := rfl
theorem ndc_2 (a : Nat) : ndc a 2 = eA 1 16 (fun _ => 0) := rfl
theorem ndc_3 (a : Nat) : ndc a 3 = eO 2 [aR (a + 4), aI 0] := rfl
theorem ndc_4 (a : Nat) : ndc a 4 = eA 1 16 (fun _ => 0) := rfl
theorem ndc_0 (a : Nat) : ndc a 0 = eO 0 [aR (a + 1), aR (a + 3), aI 0, aI (-1), aI (-1), aI 0, aI 0, aI 0] := rfl
theorem c_row {c : Nat} (hc : c < 125) : (nTY h).1 (h.2.1 + ofR c) = some (eO 2 [aR (h.2.1 + ofR c + 1), aI 0]) ∧ (nTY h).1 (h.2.1 + ofR c + 1) = some (eA 1 16 (fun _ => 0)) := by
  by_cases h1 : c < 120
  · obtain ⟨j, b, hb, rfl⟩ : ∃ j b, b < 2 ∧ c = 2 * j + b := ⟨c / 2, c % 2, by omega, by omega⟩
    have e1 : (2 * j + b) / 2 = j := by omega
    have e2 : (2 * j + b) % 2 = b := by omega
    by_cases hj : j < 30
    · have e3 : ofR (2 * j + b) = 17 + 5 * j + 1 + 2 * b := by unfold ofR; rw [if_pos (by omega), e1, e2]
      rw [e3]
      rcases (by omega : b = 0 ∨ b = 1) with q | q <;> subst q
      · have k1 := c_tn (h := h) hj (k := 1) (by omega)
        have k2 := c_tn (h := h) hj (k := 2) (by omega)
        rw [show h.2.1 + (17 + 5 * j + 1 + 2 * 0) = h.2.1 + 17 + 5 * j + 1 by omega]
        exact ⟨k1, k2⟩
      · have k1 := c_tn (h := h) hj (k := 3) (by omega)
        have k2 := c_tn (h := h) hj (k := 4) (by omega)
        rw [show h.2.1 + (17 + 5 * j + 1 + 2 * 1) = h.2.1 + 17 + 5 * j + 3 by omega]
        exact ⟨k1, k2⟩
    · have e3 : ofR (2 * j + b) = 170 + 5 * (j - 30) + 1 + 2 * b := by unfold ofR; rw [if_neg (by omega), if_pos (by omega), e1, e2]
      rw [e3]
      rcases (by omega : b = 0 ∨ b = 1) with q | q <;> subst q
      · have k1 := c_tm (h := h) (j := j - 30) (by omega) (k := 1) (by omega)
        have k2 := c_tm (h := h) (j := j - 30) (by omega) (k := 2) (by omega)
        rw [show h.2.1 + (170 + 5 * (j - 30) + 1 + 2 * 0) = h.2.1 + 170 + 5 * (j - 30) + 1 by omega]
        exact ⟨k1, k2⟩
      · have k1 := c_tm (h := h) (j := j - 30) (by omega) (k := 3) (by omega)
        have k2 := c_tm (h := h) (j := j - 30) (by omega) (k := 4) (by omega)
        rw [show h.2.1 + (170 + 5 * (j - 30) + 1 + 2 * 1) = h.2.1 + 170 + 5 * (j - 30) + 3 by omega]
        exact ⟨k1, k2⟩
  · rcases (by omega : c = 120 ∨ c = 121 ∨ c = 122 ∨ c = 123 ∨ c = 124) with q | q | q | q | q <;> subst q
    · exact c_t12
    · exact c_t2
    · exact c_t5
    · exact c_t8
    · exact c_t10
theorem ofC_row {c : Nat} (h : c < 125) : ofC c = ofR c := if_pos h
theorem ofC_n1 {j : Nat} (h : j < 30) : ofC (400 + j) = 17 + 5 * j ∧ ofC (2 * j) = 17 + 5 * j + 1 ∧ ofC (2 * j + 1) = 17 + 5 * j + 3 := by
  refine ⟨by unfold ofC; rw [if_neg (by omega), if_neg (by omega), if_pos (by omega)]; omega, ?_, ?_⟩
  · rw [ofC_row (by omega)]
    unfold ofR
    rw [if_pos (by omega)]
    omega
  · rw [ofC_row (by omega)]
    unfold ofR
    rw [if_pos (by omega)]
    omega
theorem ofC_n2 {j : Nat} (h : j < 30) : ofC (430 + j) = 170 + 5 * j ∧ ofC (2 * (30 + j)) = 170 + 5 * j + 1 ∧ ofC (2 * (30 + j) + 1) = 170 + 5 * j + 3 := by
  refine ⟨by unfold ofC; rw [if_neg (by omega), if_neg (by omega), if_neg (by omega), if_pos (by omega)]; omega, ?_, ?_⟩
  · rw [ofC_row (by omega)]
    unfold ofR
    rw [if_neg (by omega), if_pos (by omega)]
    omega
  · rw [ofC_row (by omega)]
    unfold ofR
    rw [if_neg (by omega), if_pos (by omega)]
    omega
theorem ty_cel (h : AH) {c : Nat} (hc : dm c) : (nTY h).1 (h.2.1 + ofC c) = some (cel (fun c => h.2.1 + ofC c) (fun r => (h.2.1 + ofR r + 1, 16, fun _ => 0)) st0 c) := by
  rcases hc with q | q | q | q
  · rw [ofC_row q, (c_row q).1]
    unfold cel
    rw [if_pos q]
    rfl
  · have e : ofC c = ofR (c - 200) + 1 := by unfold ofC; rw [if_neg (by omega), if_pos (by omega)]
    rw [e, show h.2.1 + (ofR (c - 200) + 1) = h.2.1 + ofR (c - 200) + 1 by omega, (c_row (c := c - 200) (by omega)).2]
    unfold cel
    rw [if_neg (by omega), if_pos (by omega)]
  · by_cases h2 : c < 430
    · obtain ⟨j, rfl⟩ : ∃ j, c = 400 + j := ⟨c - 400, by omega⟩
      obtain ⟨o1, o2, o3⟩ := ofC_n1 (j := j) (by omega)
      have k := c_tn (h := h) (j := j) (by omega) (k := 0) (by omega)
      unfold cel
      rw [if_neg (by omega), if_neg (by omega), if_pos (by omega), Nat.add_sub_cancel_left]
      dsimp only
      rw [o1, o2, o3, show h.2.1 + (17 + 5 * j) = h.2.1 + 17 + 5 * j + 0 by omega, show h.2.1 + (17 + 5 * j + 1) = h.2.1 + 17 + 5 * j + 1 by omega, show h.2.1 + (17 + 5 * j + 3) = h.2.1 + 17 + 5 * j + 3 by omega, k, ndc_0]
      rfl
    · obtain ⟨j, rfl⟩ : ∃ j, c = 430 + j := ⟨c - 430, by omega⟩
      obtain ⟨o1, o2, o3⟩ := ofC_n2 (j := j) (by omega)
      have k := c_tm (h := h) (j := j) (by omega) (k := 0) (by omega)
      unfold cel
      rw [if_neg (by omega), if_neg (by omega), if_pos (by omega), show 430 + j - 400 = 30 + j by omega]
      dsimp only
      rw [o1, o2, o3, show h.2.1 + (170 + 5 * j) = h.2.1 + 170 + 5 * j + 0 by omega, show h.2.1 + (170 + 5 * j + 1) = h.2.1 + 170 + 5 * j + 1 by omega, show h.2.1 + (170 + 5 * j + 3) = h.2.1 + 170 + 5 * j + 3 by omega, k, ndc_0]
      rfl
  · rcases (by omega : c = 500 ∨ c = 501 ∨ c = 510 ∨ c = 511 ∨ c = 520 ∨ c = 521 ∨ c = 530 ∨ c = 531 ∨ c = 532 ∨ c = 533) with q | q | q | q | q | q | q | q | q | q <;> subst q
    · exact c_t14.1
    · exact c_t167.1
    · refine c_t14.2.1.trans ?_
      show some (eQ 3 30 (arN (h.2.1 + 14) 30)) = some (eQ 3 30 (nar (fun c => h.2.1 + ofC c) (fun i => 30 * 0 + i)))
      congr 3
      funext i
      unfold arN nar
      by_cases hi : i < 30
      · rw [if_pos hi, if_pos hi]
        dsimp only
        rw [show 400 + (30 * 0 + i) = 400 + i by omega, (ofC_n1 hi).1]
        congr 1
        omega
      · rw [if_neg hi, if_neg hi]
    · refine c_t167.2.1.trans ?_
      show some (eQ 3 30 (arN (h.2.1 + 167) 30)) = some (eQ 3 30 (nar (fun c => h.2.1 + ofC c) (fun i => 30 * 1 + i)))
      congr 3
      funext i
      unfold arN nar
      by_cases hi : i < 30
      · rw [if_pos hi, if_pos hi]
        dsimp only
        rw [show 400 + (30 * 1 + i) = 430 + i by omega, (ofC_n2 hi).1]
        congr 1
        omega
      · rw [if_neg hi, if_neg hi]
    · exact c_t14.2.2
    · exact c_t167.2.2
    · exact c_t1
    · exact c_t4
    · exact c_t7
    · exact hput_eq (h := X6 h)
theorem ty_world {K : KE} (hK : K.2.2 = h.2.2.2) (hb : h.2.2.2.1 ≤ h.2.1) (hV : ∀ a, K.1 a → h.1 a = K.2.1 a ∧ a < h.2.1) : WC K (nTY h) (fun c => h.2.1 + ofC c) st0 (h.2.1 + 695) (h.2.2.1 + 1554881) := by
  have had : ∀ c, dm c → ad (fun c => h.2.1 + ofC c) (fun r => (h.2.1 + ofR r + 1, 16, fun _ => 0)) c = h.2.1 + ofC c := fun c hc => by
    unfold ad
    by_cases q : 200 ≤ c ∧ c < 325
    · rw [if_pos q]
      have e : ofC c = ofR (c - 200) + 1 := by unfold ofC; rw [if_neg (by omega), if_pos (by omega)]
      rw [e]
      exact Nat.add_assoc _ _ _
    · rw [if_neg q]
  have n2 : (nTY h).2.1 = h.2.1 + 320 := X6_2 h
  have nk := X6_k h
  have nk1 : (nTY h).2.2.2 = h.2.2.2 := nk.1
  have nk2 : (nTY h).2.2.1 = h.2.2.1 + 2881 := nk.2
  refine ⟨fun r => (h.2.1 + ofR r + 1, 16, fun _ => 0), fun c hc => ?_, fun c c' h1 h2 h3 => ?_, fun r hr => ?_, ?_, nk1.trans hK.symm, fun a ha => ?_, ?_, ?_⟩
  · rw [had c hc]
    have := (ofI_C hc).2
    have hk1 : K.2.2.1 = h.2.2.2.1 := by rw [hK]
    refine ⟨ty_cel h hc, by omega, by omega, fun q => ?_⟩
    have := (hV _ q).2
    omega
  · rw [had c h1, had c' h2] at h3
    have e : ofC c = ofC c' := by omega
    rw [← (ofI_C h1).1, ← (ofI_C h2).1, e]
  · refine ⟨Nat.zero_le _, Or.inl rfl, fun i hi => absurd hi (Nat.not_lt_zero _), fun v hv => ?_⟩
    exact absurd hv (List.not_mem_nil)
  · refine ⟨fun t i ht hi => ?_, fun t i j ht hi hj e => ?_, fun t ht => ?_, Or.inl rfl⟩
    · show 30 * t ≤ 30 * t + i ∧ 30 * t + i < 30 * t + 30
      omega
    · have e2 : 30 * t + i = 30 * t + j := e
      omega
    · exact ⟨Nat.le_refl _, by show 1 ≤ 30; omega⟩
  · obtain ⟨q1, q2⟩ := hV a ha
    rw [← q1]
    refine ⟨?_, by omega⟩
    unfold nTY
    rw [hput_ne (by omega)]
    show (nTrF (X5 h) 30).1 a = _
    rw [nTrF_old _ (by rw [X5_2]; omega)]
    show (nTrF (X4 h) 30).1 a = _
    rw [nTrF_old _ (by rw [X4_2]; omega)]
    unfold X4 X3 nRd X2 nWr X1 nTp
    rw [nRow_old _ (by show a < h.2.1 + 12; omega), hput_ne (by show a ≠ h.2.1 + 7; omega), nRow_old _ (by show a < h.2.1 + 10; omega), nRow_old _ (by show a < h.2.1 + 8; omega), hnew_ne (by show a ≠ h.2.1 + 7; omega), hput_ne (by show a ≠ h.2.1 + 4; omega), nRow_old _ (by show a < h.2.1 + 5; omega), hnew_ne (by show a ≠ h.2.1 + 4; omega), hput_ne (by show a ≠ h.2.1 + 1; omega), nRow_old _ (by show a < h.2.1 + 2; omega), hnew_ne (by show a ≠ h.2.1 + 1; omega)]
    exact hnew_ne (by omega)
  · rw [n2]
    have := sm_const (gl 16) 125
    show h.2.1 + 320 + sumN (fun _ => gl 16) 125 ≤ _
    rw [this]
    show h.2.1 + 320 + 3 * 125 ≤ _
    omega
  · rw [nk2]
    have := sm_const (gs 16) 125
    show h.2.2.1 + 2881 + sumN (fun _ => gs 16) 125 ≤ _
    rw [this]
    show h.2.2.1 + 2881 + 12416 * 125 ≤ _
    omega
theorem st0_ti : TI st0 0 := by
  refine ⟨⟨Nat.le_refl _, by show 1 ≤ 30; omega⟩, fun i h0 h1 => ?_, fun i h1 => ?_, fun i j i0 i1 => ?_, fun i h0 h1 => ?_, fun i h1 => ?_, fun i h1 => ?_, ?_, fun i h1 => ?_⟩
  · have : i < 1 := h1
    omega
  · exact ⟨Int.le_refl _, by show (0 : Int) ≤ 3; omega⟩
  · have : i < 1 := i1
    omega
  · have : i < 1 := h1
    omega
  · refine ⟨fun q => ?_, fun _ => rfl⟩
    have q2 : (0 : Int) = 3 := q
    omega
  · refine ⟨fun q => ?_, fun q => ?_, fun _ _ => rfl⟩
    · have q2 : (0 : Int) = 1 := q
      omega
    · have q2 : (0 : Int) = 2 := q
      omega
  · exact ⟨rfl, rfl, rfl⟩
  · show (0 : Int) ≤ 0 ∧ (0 : Int) ≤ 4095 ∧ (0 : Int) ≤ 0 ∧ (0 : Int) ≤ 2097151 ∧ (0 : Int) ≤ 0 ∧ (0 : Int) ≤ 2147483647
    omega
end TyWorld
