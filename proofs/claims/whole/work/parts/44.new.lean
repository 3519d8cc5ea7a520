/-! New objects of the class: what the heap is then. -/
/-- the heap with a new row -/
def nRow (h : AH) : AH := (hup (hup h.1 (h.2.1 + 1) (eA 1 16 (fun _ => 0))) h.2.1 (eO 2 [aR (h.2.1 + 1), aI 0]), h.2.1 + 2, h.2.2.1 + 18, h.2.2.2)
/-- the heap with a new node -/
def nNd (h : AH) : AH := hput (nRow (nRow (hnew h (eO 0 (tD 0)) 8))) h.2.1 (eO 0 [aR (h.2.1 + 1), aR (h.2.1 + 3), aI 0, aI (-1), aI (-1), aI 0, aI 0, aI 0])
/-- a new tree's array with i nodes in it -/
def arN (n i : Nat) : Nat → Option Nat := fun j => if j < i then some (n + 3 + 5 * j) else none
def nTr0 (h : AH) : AH := hput (hnew (hnew (hnew h (eO 4 (tD 4)) 3) (eQ 3 30 (arN h.2.1 0)) 30) (eA 0 30 (fun _ => 0)) 30) h.2.1 (eO 4 [aR (h.2.1 + 1), aI 1, aR (h.2.1 + 2)])
def nTrF (h : AH) : Nat → AH
  | 0 => nTr0 h
  | i + 1 => hput (nNd (nTrF h i)) (h.2.1 + 1) (eQ 3 30 (arN h.2.1 (i + 1)))
def nTp (h : AH) : AH := hput (nRow (hnew h (eO 3 (tD 3)) 1)) h.2.1 (eO 3 [aR (h.2.1 + 1)])
def nWr (h : AH) (tp : Nat) : AH := hput (nRow (hnew h (eO 6 (tD 6)) 3)) h.2.1 (eO 6 [aR tp, aR (h.2.1 + 1), aI 0])
def nRd (h : AH) (tp : Nat) : AH := hput (nRow (nRow (hnew h (eO 1 (tD 1)) 14))) h.2.1 (eO 1 [aR tp, aR (h.2.1 + 1), aR (h.2.1 + 3), aI 0, aI 0, aL 0, aL 0, aL 0, aL 0, aI (-1), aI (-1), aI 0, aI 0, aI (-1)])
theorem hput_2 (h : AH) (a : Nat) (e : AE) : (hput h a e).2 = h.2 := rfl
theorem hnew_2 (h : AH) (e : AE) (n : Nat) : (hnew h e n).2.1 = h.2.1 + 1 := rfl
theorem nRow_2 (h : AH) : (nRow h).2.1 = h.2.1 + 2 := rfl
theorem nRow_at (h : AH) : (nRow h).1 h.2.1 = some (eO 2 [aR (h.2.1 + 1), aI 0]) := by simp [nRow, hup]
theorem nRow_by (h : AH) : (nRow h).1 (h.2.1 + 1) = some (eA 1 16 (fun _ => 0)) := by simp [nRow, hup]
theorem nRow_old (h : AH) {b : Nat} (hb : b < h.2.1) : (nRow h).1 b = h.1 b := by
  simp [nRow, hup, show b ≠ h.2.1 by omega, show b ≠ h.2.1 + 1 by omega]
theorem nRow_put (h : AH) {a : Nat} {e : AE} (ha : a < h.2.1) : nRow (hput h a e) = hput (nRow h) a e := by
  have e1 : (hput h a e).2.1 = h.2.1 := rfl
  refine Prod.ext ?_ rfl
  funext j
  show hup (hup (hup h.1 a e) (h.2.1 + 1) _) h.2.1 _ j = hup (hup (hup h.1 (h.2.1 + 1) _) h.2.1 _) a e j
  unfold hup
  by_cases j1 : j = h.2.1
  · simp [j1, show h.2.1 ≠ a by omega]
    rfl
  · by_cases j2 : j = h.2.1 + 1
    · simp [j2, show h.2.1 + 1 ≠ a by omega]
    · simp [j1, j2]
section NewC
variable {h : AH} {d a tp : Nat}
theorem c_rwNew (hb : h.2.2.2.1 ≤ h.2.1) : Cal d yRw_init [aR h.2.1] (hnew h (eO 2 (tD 2)) 2) (RV none (fun h2 => h2 = nRow h)) := by
  have f1 : (hnew (hnew h (eO 2 (tD 2)) 2) (eA 1 (16 : Int).toNat (fun _ => 0)) (16 : Int).toNat).1 h.2.1 = some (eO 2 (tD 2)) := by
    rw [hnew_ne (by rw [hnew_2]; omega), hnew_eq]
  show Go _ _ 0 [aR h.2.1] [] _ _
  refine g_aload_n rfl rfl ?_
  refine g_obj rfl rfl rfl (Nat.le_of_ble_eq_true rfl) ?_
  refine g_aload_n rfl rfl ?_
  refine g_bipush (n := 16) rfl (by decide) ?_
  refine g_newa (kd := 1) rfl rfl (by decide) ?_
  refine g_put (ci := 2) (kk := 0) (fs' := [aR (h.2.1 + 1), aI 0]) rfl rfl f1 hb (Nat.le_of_ble_eq_true rfl) rfl (by decide) rfl ?_
  refine g_aload_n rfl rfl ?_
  refine g_iconst (n := 0) rfl (by decide) ?_
  refine g_put (ci := 2) (kk := 1) (fs' := [aR (h.2.1 + 1), aI 0]) rfl rfl hput_eq hb (Nat.le_of_ble_eq_true rfl) rfl (by decide) rfl ?_
  refine r_v rfl rfl ?_
  rw [hput_hput]
  refine Prod.ext ?_ rfl
  funext j
  show hup (hup (hup h.1 h.2.1 _) (h.2.1 + 1) _) h.2.1 _ j = hup (hup h.1 (h.2.1 + 1) _) h.2.1 _ j
  unfold hup
  by_cases j1 : j = h.2.1
  · simp [j1]
  · by_cases j2 : j = h.2.1 + 1
    · simp [j2]
    · simp [j1, j2]
theorem c_ndNew (hd1 : 1 ≤ d) (hb : h.2.2.2.1 ≤ h.2.1) : Cal d yNd_init [aR h.2.1] (hnew h (eO 0 (tD 0)) 8) (RV none (fun h2 => h2 = nNd h)) := by
  unfold nNd
  obtain ⟨H0, hH0⟩ : ∃ H, hnew h (eO 0 (tD 0)) 8 = H := ⟨_, rfl⟩
  have hn0 : H0.2.1 = h.2.1 + 1 := by rw [← hH0]; rfl
  have hk0 : H0.2.2.2 = h.2.2.2 := by rw [← hH0]; rfl
  have hc0 : H0.1 h.2.1 = some (eO 0 (tD 0)) := by rw [← hH0]; exact hnew_eq
  rw [hH0]
  show Go _ _ 0 [aR h.2.1] [] _ _
  have hb0 : H0.2.2.2.1 ≤ h.2.1 := by rw [hk0]; exact hb
  refine g_aload_n rfl rfl ?_
  refine g_obj rfl rfl rfl (Nat.le_of_ble_eq_true rfl) ?_
  refine g_aload_n rfl rfl ?_
  refine g_new (ci := 2) rfl rfl rfl ?_
  refine g_dup rfl rfl ?_
  refine g_I (z := yRw_init) (e := 1) (A := []) (rest := [aR H0.2.1, aR h.2.1])  rfl rfl rfl rfl rfl rfl (by omega) (c_rwNew (h := H0) (by rw [hk0, hn0]; omega)) ?_
  intro hh1 hz
  have hq1 : hh1 = (nRow H0) := hz
  have hc1 : hh1.1 h.2.1 = some (eO 0 (tD 0)) := by rw [hq1, nRow_old _ (by omega)]; exact hc0
  have hb1 : hh1.2.2.2.1 ≤ h.2.1 := by rw [hq1]; exact hb0
  rw [show H0.2.1 = h.2.1 + 1 from hn0]
  refine g_put (ci := 0) (kk := 0) (fs' := [aR (h.2.1 + 1), aN, aI 0, aI 0, aI 0, aI 0, aI 0, aI 0]) rfl rfl hc1 hb1 (Nat.le_of_ble_eq_true rfl) rfl (by decide) rfl ?_
  generalize hg_hh2 : hput hh1 h.2.1 (eO 0 [aR (h.2.1 + 1), aN, aI 0, aI 0, aI 0, aI 0, aI 0, aI 0]) = hh2
  have hq2 : hh2 = hput (nRow H0) h.2.1 (eO 0 [aR (h.2.1 + 1), aN, aI 0, aI 0, aI 0, aI 0, aI 0, aI 0]) := by rw [← hg_hh2, hq1]
  have hc2 : hh2.1 h.2.1 = some (eO 0 [aR (h.2.1 + 1), aN, aI 0, aI 0, aI 0, aI 0, aI 0, aI 0]) := by rw [hq2]; exact hput_eq
  have hb2 : hh2.2.2.2.1 ≤ h.2.1 := by rw [hq2]; exact hb0
  refine g_aload_n rfl rfl ?_
  refine g_new (ci := 2) rfl rfl rfl ?_
  refine g_dup rfl rfl ?_
  refine g_I (z := yRw_init) (e := 1) (A := []) (rest := [aR hh2.2.1, aR h.2.1])  rfl rfl rfl rfl rfl rfl (by omega) (c_rwNew (h := hh2) (by rw [hq2]; show H0.2.2.2.1 ≤ _; simp only [hput_2, nRow_2]; omega)) ?_
  intro hh3 hz
  have hq3 : hh3 = hput (nRow (nRow H0)) h.2.1 (eO 0 [aR (h.2.1 + 1), aN, aI 0, aI 0, aI 0, aI 0, aI 0, aI 0]) := by rw [hz, hq2, nRow_put _ (by simp only [nRow_2]; omega)]
  have hc3 : hh3.1 h.2.1 = some (eO 0 [aR (h.2.1 + 1), aN, aI 0, aI 0, aI 0, aI 0, aI 0, aI 0]) := by rw [hq3]; exact hput_eq
  have hb3 : hh3.2.2.2.1 ≤ h.2.1 := by rw [hq3]; exact hb0
  rw [show hh2.2.1 = h.2.1 + 3 from by rw [hq2]; simp only [hput_2, nRow_2]; omega]
  refine g_put (ci := 0) (kk := 1) (fs' := [aR (h.2.1 + 1), aR (h.2.1 + 3), aI 0, aI 0, aI 0, aI 0, aI 0, aI 0]) rfl rfl hc3 hb3 (Nat.le_of_ble_eq_true rfl) rfl (by decide) rfl ?_
  generalize hg_hh4 : hput hh3 h.2.1 (eO 0 [aR (h.2.1 + 1), aR (h.2.1 + 3), aI 0, aI 0, aI 0, aI 0, aI 0, aI 0]) = hh4
  have hq4 : hh4 = hput (nRow (nRow H0)) h.2.1 (eO 0 [aR (h.2.1 + 1), aR (h.2.1 + 3), aI 0, aI 0, aI 0, aI 0, aI 0, aI 0]) := by rw [← hg_hh4, hq3, hput_hput]
  have hc4 : hh4.1 h.2.1 = some (eO 0 [aR (h.2.1 + 1), aR (h.2.1 + 3), aI 0, aI 0, aI 0, aI 0, aI 0, aI 0]) := by rw [hq4]; exact hput_eq
  have hb4 : hh4.2.2.2.1 ≤ h.2.1 := by rw [hq4]; exact hb0
  refine g_aload_n rfl rfl ?_
  refine g_iconst (n := 0) rfl (by decide) ?_
  refine g_put (ci := 0) (kk := 2) (fs' := [aR (h.2.1 + 1), aR (h.2.1 + 3), aI 0, aI 0, aI 0, aI 0, aI 0, aI 0]) rfl rfl hc4 hb4 (Nat.le_of_ble_eq_true rfl) rfl (by decide) rfl ?_
  generalize hg_hh5 : hput hh4 h.2.1 (eO 0 [aR (h.2.1 + 1), aR (h.2.1 + 3), aI 0, aI 0, aI 0, aI 0, aI 0, aI 0]) = hh5
  have hq5 : hh5 = hput (nRow (nRow H0)) h.2.1 (eO 0 [aR (h.2.1 + 1), aR (h.2.1 + 3), aI 0, aI 0, aI 0, aI 0, aI 0, aI 0]) := by rw [← hg_hh5, hq4, hput_hput]
  have hc5 : hh5.1 h.2.1 = some (eO 0 [aR (h.2.1 + 1), aR (h.2.1 + 3), aI 0, aI 0, aI 0, aI 0, aI 0, aI 0]) := by rw [hq5]; exact hput_eq
  have hb5 : hh5.2.2.2.1 ≤ h.2.1 := by rw [hq5]; exact hb0
  refine g_aload_n rfl rfl ?_
  refine g_iconst (n := -1) rfl (by decide) ?_
  refine g_put (ci := 0) (kk := 3) (fs' := [aR (h.2.1 + 1), aR (h.2.1 + 3), aI 0, aI (-1), aI 0, aI 0, aI 0, aI 0]) rfl rfl hc5 hb5 (Nat.le_of_ble_eq_true rfl) rfl (by decide) rfl ?_
  generalize hg_hh6 : hput hh5 h.2.1 (eO 0 [aR (h.2.1 + 1), aR (h.2.1 + 3), aI 0, aI (-1), aI 0, aI 0, aI 0, aI 0]) = hh6
  have hq6 : hh6 = hput (nRow (nRow H0)) h.2.1 (eO 0 [aR (h.2.1 + 1), aR (h.2.1 + 3), aI 0, aI (-1), aI 0, aI 0, aI 0, aI 0]) := by rw [← hg_hh6, hq5, hput_hput]
  have hc6 : hh6.1 h.2.1 = some (eO 0 [aR (h.2.1 + 1), aR (h.2.1 + 3), aI 0, aI (-1), aI 0, aI 0, aI 0, aI 0]) := by rw [hq6]; exact hput_eq
  have hb6 : hh6.2.2.2.1 ≤ h.2.1 := by rw [hq6]; exact hb0
  refine g_aload_n rfl rfl ?_
  refine g_iconst (n := -1) rfl (by decide) ?_
  refine g_put (ci := 0) (kk := 4) (fs' := [aR (h.2.1 + 1), aR (h.2.1 + 3), aI 0, aI (-1), aI (-1), aI 0, aI 0, aI 0]) rfl rfl hc6 hb6 (Nat.le_of_ble_eq_true rfl) rfl (by decide) rfl ?_
  generalize hg_hh7 : hput hh6 h.2.1 (eO 0 [aR (h.2.1 + 1), aR (h.2.1 + 3), aI 0, aI (-1), aI (-1), aI 0, aI 0, aI 0]) = hh7
  have hq7 : hh7 = hput (nRow (nRow H0)) h.2.1 (eO 0 [aR (h.2.1 + 1), aR (h.2.1 + 3), aI 0, aI (-1), aI (-1), aI 0, aI 0, aI 0]) := by rw [← hg_hh7, hq6, hput_hput]
  have hc7 : hh7.1 h.2.1 = some (eO 0 [aR (h.2.1 + 1), aR (h.2.1 + 3), aI 0, aI (-1), aI (-1), aI 0, aI 0, aI 0]) := by rw [hq7]; exact hput_eq
  have hb7 : hh7.2.2.2.1 ≤ h.2.1 := by rw [hq7]; exact hb0
  refine g_aload_n rfl rfl ?_
  refine g_iconst (n := 0) rfl (by decide) ?_
  refine g_put (ci := 0) (kk := 5) (fs' := [aR (h.2.1 + 1), aR (h.2.1 + 3), aI 0, aI (-1), aI (-1), aI 0, aI 0, aI 0]) rfl rfl hc7 hb7 (Nat.le_of_ble_eq_true rfl) rfl (by decide) rfl ?_
  generalize hg_hh8 : hput hh7 h.2.1 (eO 0 [aR (h.2.1 + 1), aR (h.2.1 + 3), aI 0, aI (-1), aI (-1), aI 0, aI 0, aI 0]) = hh8
  have hq8 : hh8 = hput (nRow (nRow H0)) h.2.1 (eO 0 [aR (h.2.1 + 1), aR (h.2.1 + 3), aI 0, aI (-1), aI (-1), aI 0, aI 0, aI 0]) := by rw [← hg_hh8, hq7, hput_hput]
  have hc8 : hh8.1 h.2.1 = some (eO 0 [aR (h.2.1 + 1), aR (h.2.1 + 3), aI 0, aI (-1), aI (-1), aI 0, aI 0, aI 0]) := by rw [hq8]; exact hput_eq
  have hb8 : hh8.2.2.2.1 ≤ h.2.1 := by rw [hq8]; exact hb0
  refine g_aload_n rfl rfl ?_
  refine g_iconst (n := 0) rfl (by decide) ?_
  refine g_put (ci := 0) (kk := 6) (fs' := [aR (h.2.1 + 1), aR (h.2.1 + 3), aI 0, aI (-1), aI (-1), aI 0, aI 0, aI 0]) rfl rfl hc8 hb8 (Nat.le_of_ble_eq_true rfl) rfl (by decide) rfl ?_
  generalize hg_hh9 : hput hh8 h.2.1 (eO 0 [aR (h.2.1 + 1), aR (h.2.1 + 3), aI 0, aI (-1), aI (-1), aI 0, aI 0, aI 0]) = hh9
  have hq9 : hh9 = hput (nRow (nRow H0)) h.2.1 (eO 0 [aR (h.2.1 + 1), aR (h.2.1 + 3), aI 0, aI (-1), aI (-1), aI 0, aI 0, aI 0]) := by rw [← hg_hh9, hq8, hput_hput]
  have hc9 : hh9.1 h.2.1 = some (eO 0 [aR (h.2.1 + 1), aR (h.2.1 + 3), aI 0, aI (-1), aI (-1), aI 0, aI 0, aI 0]) := by rw [hq9]; exact hput_eq
  have hb9 : hh9.2.2.2.1 ≤ h.2.1 := by rw [hq9]; exact hb0
  refine g_aload_n rfl rfl ?_
  refine g_iconst (n := 0) rfl (by decide) ?_
  refine g_put (ci := 0) (kk := 7) (fs' := [aR (h.2.1 + 1), aR (h.2.1 + 3), aI 0, aI (-1), aI (-1), aI 0, aI 0, aI 0]) rfl rfl hc9 hb9 (Nat.le_of_ble_eq_true rfl) rfl (by decide) rfl ?_
  generalize hg_hh10 : hput hh9 h.2.1 (eO 0 [aR (h.2.1 + 1), aR (h.2.1 + 3), aI 0, aI (-1), aI (-1), aI 0, aI 0, aI 0]) = hh10
  have hq10 : hh10 = hput (nRow (nRow H0)) h.2.1 (eO 0 [aR (h.2.1 + 1), aR (h.2.1 + 3), aI 0, aI (-1), aI (-1), aI 0, aI 0, aI 0]) := by rw [← hg_hh10, hq9, hput_hput]
  have hc10 : hh10.1 h.2.1 = some (eO 0 [aR (h.2.1 + 1), aR (h.2.1 + 3), aI 0, aI (-1), aI (-1), aI 0, aI 0, aI 0]) := by rw [hq10]; exact hput_eq
  have hb10 : hh10.2.2.2.1 ≤ h.2.1 := by rw [hq10]; exact hb0
  exact r_v rfl rfl (by rw [hq10])
theorem c_tpNew (hd1 : 1 ≤ d) (hb : h.2.2.2.1 ≤ h.2.1) : Cal d yTp_init [aR h.2.1] (hnew h (eO 3 (tD 3)) 1) (RV none (fun h2 => h2 = nTp h)) := by
  unfold nTp
  obtain ⟨H0, hH0⟩ : ∃ H, hnew h (eO 3 (tD 3)) 1 = H := ⟨_, rfl⟩
  have hn0 : H0.2.1 = h.2.1 + 1 := by rw [← hH0]; rfl
  have hk0 : H0.2.2.2 = h.2.2.2 := by rw [← hH0]; rfl
  have hc0 : H0.1 h.2.1 = some (eO 3 (tD 3)) := by rw [← hH0]; exact hnew_eq
  rw [hH0]
  show Go _ _ 0 [aR h.2.1] [] _ _
  have hb0 : H0.2.2.2.1 ≤ h.2.1 := by rw [hk0]; exact hb
  refine g_aload_n rfl rfl ?_
  refine g_obj rfl rfl rfl (Nat.le_of_ble_eq_true rfl) ?_
  refine g_aload_n rfl rfl ?_
  refine g_new (ci := 2) rfl rfl rfl ?_
  refine g_dup rfl rfl ?_
  refine g_I (z := yRw_init) (e := 1) (A := []) (rest := [aR H0.2.1, aR h.2.1])  rfl rfl rfl rfl rfl rfl (by omega) (c_rwNew (h := H0) (by rw [hk0, hn0]; omega)) ?_
  intro hh1 hz
  have hq1 : hh1 = (nRow H0) := hz
  have hc1 : hh1.1 h.2.1 = some (eO 3 (tD 3)) := by rw [hq1, nRow_old _ (by omega)]; exact hc0
  have hb1 : hh1.2.2.2.1 ≤ h.2.1 := by rw [hq1]; exact hb0
  rw [show H0.2.1 = h.2.1 + 1 from hn0]
  refine g_put (ci := 3) (kk := 0) (fs' := [aR (h.2.1 + 1)]) rfl rfl hc1 hb1 (Nat.le_of_ble_eq_true rfl) rfl (by decide) rfl ?_
  generalize hg_hh2 : hput hh1 h.2.1 (eO 3 [aR (h.2.1 + 1)]) = hh2
  have hq2 : hh2 = hput (nRow H0) h.2.1 (eO 3 [aR (h.2.1 + 1)]) := by rw [← hg_hh2, hq1]
  have hc2 : hh2.1 h.2.1 = some (eO 3 [aR (h.2.1 + 1)]) := by rw [hq2]; exact hput_eq
  have hb2 : hh2.2.2.2.1 ≤ h.2.1 := by rw [hq2]; exact hb0
  exact r_v rfl rfl (by rw [hq2])
theorem c_wrNew (hd1 : 1 ≤ d) (hb : h.2.2.2.1 ≤ h.2.1) : Cal d yWr_init [aR h.2.1, aR tp] (hnew h (eO 6 (tD 6)) 3) (RV none (fun h2 => h2 = nWr h tp)) := by
  unfold nWr
  obtain ⟨H0, hH0⟩ : ∃ H, hnew h (eO 6 (tD 6)) 3 = H := ⟨_, rfl⟩
  have hn0 : H0.2.1 = h.2.1 + 1 := by rw [← hH0]; rfl
  have hk0 : H0.2.2.2 = h.2.2.2 := by rw [← hH0]; rfl
  have hc0 : H0.1 h.2.1 = some (eO 6 (tD 6)) := by rw [← hH0]; exact hnew_eq
  rw [hH0]
  show Go _ _ 0 [aR h.2.1, aR tp] [] _ _
  have hb0 : H0.2.2.2.1 ≤ h.2.1 := by rw [hk0]; exact hb
  refine g_aload_n rfl rfl ?_
  refine g_obj rfl rfl rfl (Nat.le_of_ble_eq_true rfl) ?_
  refine g_aload_n rfl rfl ?_
  refine g_new (ci := 2) rfl rfl rfl ?_
  refine g_dup rfl rfl ?_
  refine g_I (z := yRw_init) (e := 1) (A := []) (rest := [aR H0.2.1, aR h.2.1])  rfl rfl rfl rfl rfl rfl (by omega) (c_rwNew (h := H0) (by rw [hk0, hn0]; omega)) ?_
  intro hh1 hz
  have hq1 : hh1 = (nRow H0) := hz
  have hc1 : hh1.1 h.2.1 = some (eO 6 (tD 6)) := by rw [hq1, nRow_old _ (by omega)]; exact hc0
  have hb1 : hh1.2.2.2.1 ≤ h.2.1 := by rw [hq1]; exact hb0
  rw [show H0.2.1 = h.2.1 + 1 from hn0]
  refine g_put (ci := 6) (kk := 1) (fs' := [aN, aR (h.2.1 + 1), aI 0]) rfl rfl hc1 hb1 (Nat.le_of_ble_eq_true rfl) rfl (by decide) rfl ?_
  generalize hg_hh2 : hput hh1 h.2.1 (eO 6 [aN, aR (h.2.1 + 1), aI 0]) = hh2
  have hq2 : hh2 = hput (nRow H0) h.2.1 (eO 6 [aN, aR (h.2.1 + 1), aI 0]) := by rw [← hg_hh2, hq1]
  have hc2 : hh2.1 h.2.1 = some (eO 6 [aN, aR (h.2.1 + 1), aI 0]) := by rw [hq2]; exact hput_eq
  have hb2 : hh2.2.2.2.1 ≤ h.2.1 := by rw [hq2]; exact hb0
  refine g_aload_n rfl rfl ?_
  refine g_iconst (n := 0) rfl (by decide) ?_
  refine g_put (ci := 6) (kk := 2) (fs' := [aN, aR (h.2.1 + 1), aI 0]) rfl rfl hc2 hb2 (Nat.le_of_ble_eq_true rfl) rfl (by decide) rfl ?_
  generalize hg_hh3 : hput hh2 h.2.1 (eO 6 [aN, aR (h.2.1 + 1), aI 0]) = hh3
  have hq3 : hh3 = hput (nRow H0) h.2.1 (eO 6 [aN, aR (h.2.1 + 1), aI 0]) := by rw [← hg_hh3, hq2, hput_hput]
  have hc3 : hh3.1 h.2.1 = some (eO 6 [aN, aR (h.2.1 + 1), aI 0]) := by rw [hq3]; exact hput_eq
  have hb3 : hh3.2.2.2.1 ≤ h.2.1 := by rw [hq3]; exact hb0
  refine g_aload_n rfl rfl ?_
  refine g_aload_n rfl rfl ?_
  refine g_put (ci := 6) (kk := 0) (fs' := [aR tp, aR (h.2.1 + 1), aI 0]) rfl rfl hc3 hb3 (Nat.le_of_ble_eq_true rfl) rfl (by decide) rfl ?_
  generalize hg_hh4 : hput hh3 h.2.1 (eO 6 [aR tp, aR (h.2.1 + 1), aI 0]) = hh4
  have hq4 : hh4 = hput (nRow H0) h.2.1 (eO 6 [aR tp, aR (h.2.1 + 1), aI 0]) := by rw [← hg_hh4, hq3, hput_hput]
  have hc4 : hh4.1 h.2.1 = some (eO 6 [aR tp, aR (h.2.1 + 1), aI 0]) := by rw [hq4]; exact hput_eq
  have hb4 : hh4.2.2.2.1 ≤ h.2.1 := by rw [hq4]; exact hb0
  exact r_v rfl rfl (by rw [hq4])
theorem c_rdNew (hd1 : 1 ≤ d) (hb : h.2.2.2.1 ≤ h.2.1) : Cal d yRd_init [aR h.2.1, aR tp] (hnew h (eO 1 (tD 1)) 14) (RV none (fun h2 => h2 = nRd h tp)) := by
  unfold nRd
  obtain ⟨H0, hH0⟩ : ∃ H, hnew h (eO 1 (tD 1)) 14 = H := ⟨_, rfl⟩
  have hn0 : H0.2.1 = h.2.1 + 1 := by rw [← hH0]; rfl
  have hk0 : H0.2.2.2 = h.2.2.2 := by rw [← hH0]; rfl
  have hc0 : H0.1 h.2.1 = some (eO 1 (tD 1)) := by rw [← hH0]; exact hnew_eq
  rw [hH0]
  show Go _ _ 0 [aR h.2.1, aR tp] [] _ _
  have hb0 : H0.2.2.2.1 ≤ h.2.1 := by rw [hk0]; exact hb
  refine g_aload_n rfl rfl ?_
  refine g_obj rfl rfl rfl (Nat.le_of_ble_eq_true rfl) ?_
  refine g_aload_n rfl rfl ?_
  refine g_new (ci := 2) rfl rfl rfl ?_
  refine g_dup rfl rfl ?_
  refine g_I (z := yRw_init) (e := 1) (A := []) (rest := [aR H0.2.1, aR h.2.1])  rfl rfl rfl rfl rfl rfl (by omega) (c_rwNew (h := H0) (by rw [hk0, hn0]; omega)) ?_
  intro hh1 hz
  have hq1 : hh1 = (nRow H0) := hz
  have hc1 : hh1.1 h.2.1 = some (eO 1 (tD 1)) := by rw [hq1, nRow_old _ (by omega)]; exact hc0
  have hb1 : hh1.2.2.2.1 ≤ h.2.1 := by rw [hq1]; exact hb0
  rw [show H0.2.1 = h.2.1 + 1 from hn0]
  refine g_put (ci := 1) (kk := 1) (fs' := [aN, aR (h.2.1 + 1), aN, aI 0, aI 0, aL 0, aL 0, aL 0, aL 0, aI 0, aI 0, aI 0, aI 0, aI 0]) rfl rfl hc1 hb1 (Nat.le_of_ble_eq_true rfl) rfl (by decide) rfl ?_
  generalize hg_hh2 : hput hh1 h.2.1 (eO 1 [aN, aR (h.2.1 + 1), aN, aI 0, aI 0, aL 0, aL 0, aL 0, aL 0, aI 0, aI 0, aI 0, aI 0, aI 0]) = hh2
  have hq2 : hh2 = hput (nRow H0) h.2.1 (eO 1 [aN, aR (h.2.1 + 1), aN, aI 0, aI 0, aL 0, aL 0, aL 0, aL 0, aI 0, aI 0, aI 0, aI 0, aI 0]) := by rw [← hg_hh2, hq1]
  have hc2 : hh2.1 h.2.1 = some (eO 1 [aN, aR (h.2.1 + 1), aN, aI 0, aI 0, aL 0, aL 0, aL 0, aL 0, aI 0, aI 0, aI 0, aI 0, aI 0]) := by rw [hq2]; exact hput_eq
  have hb2 : hh2.2.2.2.1 ≤ h.2.1 := by rw [hq2]; exact hb0
  refine g_aload_n rfl rfl ?_
  refine g_new (ci := 2) rfl rfl rfl ?_
  refine g_dup rfl rfl ?_
  refine g_I (z := yRw_init) (e := 1) (A := []) (rest := [aR hh2.2.1, aR h.2.1])  rfl rfl rfl rfl rfl rfl (by omega) (c_rwNew (h := hh2) (by rw [hq2]; show H0.2.2.2.1 ≤ _; simp only [hput_2, nRow_2]; omega)) ?_
  intro hh3 hz
  have hq3 : hh3 = hput (nRow (nRow H0)) h.2.1 (eO 1 [aN, aR (h.2.1 + 1), aN, aI 0, aI 0, aL 0, aL 0, aL 0, aL 0, aI 0, aI 0, aI 0, aI 0, aI 0]) := by rw [hz, hq2, nRow_put _ (by simp only [nRow_2]; omega)]
  have hc3 : hh3.1 h.2.1 = some (eO 1 [aN, aR (h.2.1 + 1), aN, aI 0, aI 0, aL 0, aL 0, aL 0, aL 0, aI 0, aI 0, aI 0, aI 0, aI 0]) := by rw [hq3]; exact hput_eq
  have hb3 : hh3.2.2.2.1 ≤ h.2.1 := by rw [hq3]; exact hb0
  rw [show hh2.2.1 = h.2.1 + 3 from by rw [hq2]; simp only [hput_2, nRow_2]; omega]
  refine g_put (ci := 1) (kk := 2) (fs' := [aN, aR (h.2.1 + 1), aR (h.2.1 + 3), aI 0, aI 0, aL 0, aL 0, aL 0, aL 0, aI 0, aI 0, aI 0, aI 0, aI 0]) rfl rfl hc3 hb3 (Nat.le_of_ble_eq_true rfl) rfl (by decide) rfl ?_
  generalize hg_hh4 : hput hh3 h.2.1 (eO 1 [aN, aR (h.2.1 + 1), aR (h.2.1 + 3), aI 0, aI 0, aL 0, aL 0, aL 0, aL 0, aI 0, aI 0, aI 0, aI 0, aI 0]) = hh4
  have hq4 : hh4 = hput (nRow (nRow H0)) h.2.1 (eO 1 [aN, aR (h.2.1 + 1), aR (h.2.1 + 3), aI 0, aI 0, aL 0, aL 0, aL 0, aL 0, aI 0, aI 0, aI 0, aI 0, aI 0]) := by rw [← hg_hh4, hq3, hput_hput]
  have hc4 : hh4.1 h.2.1 = some (eO 1 [aN, aR (h.2.1 + 1), aR (h.2.1 + 3), aI 0, aI 0, aL 0, aL 0, aL 0, aL 0, aI 0, aI 0, aI 0, aI 0, aI 0]) := by rw [hq4]; exact hput_eq
  have hb4 : hh4.2.2.2.1 ≤ h.2.1 := by rw [hq4]; exact hb0
  refine g_aload_n rfl rfl ?_
  refine g_iconst (n := 0) rfl (by decide) ?_
  refine g_put (ci := 1) (kk := 3) (fs' := [aN, aR (h.2.1 + 1), aR (h.2.1 + 3), aI 0, aI 0, aL 0, aL 0, aL 0, aL 0, aI 0, aI 0, aI 0, aI 0, aI 0]) rfl rfl hc4 hb4 (Nat.le_of_ble_eq_true rfl) rfl (by decide) rfl ?_
  generalize hg_hh5 : hput hh4 h.2.1 (eO 1 [aN, aR (h.2.1 + 1), aR (h.2.1 + 3), aI 0, aI 0, aL 0, aL 0, aL 0, aL 0, aI 0, aI 0, aI 0, aI 0, aI 0]) = hh5
  have hq5 : hh5 = hput (nRow (nRow H0)) h.2.1 (eO 1 [aN, aR (h.2.1 + 1), aR (h.2.1 + 3), aI 0, aI 0, aL 0, aL 0, aL 0, aL 0, aI 0, aI 0, aI 0, aI 0, aI 0]) := by rw [← hg_hh5, hq4, hput_hput]
  have hc5 : hh5.1 h.2.1 = some (eO 1 [aN, aR (h.2.1 + 1), aR (h.2.1 + 3), aI 0, aI 0, aL 0, aL 0, aL 0, aL 0, aI 0, aI 0, aI 0, aI 0, aI 0]) := by rw [hq5]; exact hput_eq
  have hb5 : hh5.2.2.2.1 ≤ h.2.1 := by rw [hq5]; exact hb0
  refine g_aload_n rfl rfl ?_
  refine g_iconst (n := 0) rfl (by decide) ?_
  refine g_put (ci := 1) (kk := 4) (fs' := [aN, aR (h.2.1 + 1), aR (h.2.1 + 3), aI 0, aI 0, aL 0, aL 0, aL 0, aL 0, aI 0, aI 0, aI 0, aI 0, aI 0]) rfl rfl hc5 hb5 (Nat.le_of_ble_eq_true rfl) rfl (by decide) rfl ?_
  generalize hg_hh6 : hput hh5 h.2.1 (eO 1 [aN, aR (h.2.1 + 1), aR (h.2.1 + 3), aI 0, aI 0, aL 0, aL 0, aL 0, aL 0, aI 0, aI 0, aI 0, aI 0, aI 0]) = hh6
  have hq6 : hh6 = hput (nRow (nRow H0)) h.2.1 (eO 1 [aN, aR (h.2.1 + 1), aR (h.2.1 + 3), aI 0, aI 0, aL 0, aL 0, aL 0, aL 0, aI 0, aI 0, aI 0, aI 0, aI 0]) := by rw [← hg_hh6, hq5, hput_hput]
  have hc6 : hh6.1 h.2.1 = some (eO 1 [aN, aR (h.2.1 + 1), aR (h.2.1 + 3), aI 0, aI 0, aL 0, aL 0, aL 0, aL 0, aI 0, aI 0, aI 0, aI 0, aI 0]) := by rw [hq6]; exact hput_eq
  have hb6 : hh6.2.2.2.1 ≤ h.2.1 := by rw [hq6]; exact hb0
  refine g_aload_n rfl rfl ?_
  refine g_lconst (m := 0) rfl rfl ?_
  refine g_put (ci := 1) (kk := 5) (fs' := [aN, aR (h.2.1 + 1), aR (h.2.1 + 3), aI 0, aI 0, aL 0, aL 0, aL 0, aL 0, aI 0, aI 0, aI 0, aI 0, aI 0]) rfl rfl hc6 hb6 (Nat.le_of_ble_eq_true rfl) rfl (by decide) rfl ?_
  generalize hg_hh7 : hput hh6 h.2.1 (eO 1 [aN, aR (h.2.1 + 1), aR (h.2.1 + 3), aI 0, aI 0, aL 0, aL 0, aL 0, aL 0, aI 0, aI 0, aI 0, aI 0, aI 0]) = hh7
  have hq7 : hh7 = hput (nRow (nRow H0)) h.2.1 (eO 1 [aN, aR (h.2.1 + 1), aR (h.2.1 + 3), aI 0, aI 0, aL 0, aL 0, aL 0, aL 0, aI 0, aI 0, aI 0, aI 0, aI 0]) := by rw [← hg_hh7, hq6, hput_hput]
  have hc7 : hh7.1 h.2.1 = some (eO 1 [aN, aR (h.2.1 + 1), aR (h.2.1 + 3), aI 0, aI 0, aL 0, aL 0, aL 0, aL 0, aI 0, aI 0, aI 0, aI 0, aI 0]) := by rw [hq7]; exact hput_eq
  have hb7 : hh7.2.2.2.1 ≤ h.2.1 := by rw [hq7]; exact hb0
  refine g_aload_n rfl rfl ?_
  refine g_lconst (m := 0) rfl rfl ?_
  refine g_put (ci := 1) (kk := 6) (fs' := [aN, aR (h.2.1 + 1), aR (h.2.1 + 3), aI 0, aI 0, aL 0, aL 0, aL 0, aL 0, aI 0, aI 0, aI 0, aI 0, aI 0]) rfl rfl hc7 hb7 (Nat.le_of_ble_eq_true rfl) rfl (by decide) rfl ?_
  generalize hg_hh8 : hput hh7 h.2.1 (eO 1 [aN, aR (h.2.1 + 1), aR (h.2.1 + 3), aI 0, aI 0, aL 0, aL 0, aL 0, aL 0, aI 0, aI 0, aI 0, aI 0, aI 0]) = hh8
  have hq8 : hh8 = hput (nRow (nRow H0)) h.2.1 (eO 1 [aN, aR (h.2.1 + 1), aR (h.2.1 + 3), aI 0, aI 0, aL 0, aL 0, aL 0, aL 0, aI 0, aI 0, aI 0, aI 0, aI 0]) := by rw [← hg_hh8, hq7, hput_hput]
  have hc8 : hh8.1 h.2.1 = some (eO 1 [aN, aR (h.2.1 + 1), aR (h.2.1 + 3), aI 0, aI 0, aL 0, aL 0, aL 0, aL 0, aI 0, aI 0, aI 0, aI 0, aI 0]) := by rw [hq8]; exact hput_eq
  have hb8 : hh8.2.2.2.1 ≤ h.2.1 := by rw [hq8]; exact hb0
  refine g_aload_n rfl rfl ?_
  refine g_lconst (m := 0) rfl rfl ?_
  refine g_put (ci := 1) (kk := 7) (fs' := [aN, aR (h.2.1 + 1), aR (h.2.1 + 3), aI 0, aI 0, aL 0, aL 0, aL 0, aL 0, aI 0, aI 0, aI 0, aI 0, aI 0]) rfl rfl hc8 hb8 (Nat.le_of_ble_eq_true rfl) rfl (by decide) rfl ?_
  generalize hg_hh9 : hput hh8 h.2.1 (eO 1 [aN, aR (h.2.1 + 1), aR (h.2.1 + 3), aI 0, aI 0, aL 0, aL 0, aL 0, aL 0, aI 0, aI 0, aI 0, aI 0, aI 0]) = hh9
  have hq9 : hh9 = hput (nRow (nRow H0)) h.2.1 (eO 1 [aN, aR (h.2.1 + 1), aR (h.2.1 + 3), aI 0, aI 0, aL 0, aL 0, aL 0, aL 0, aI 0, aI 0, aI 0, aI 0, aI 0]) := by rw [← hg_hh9, hq8, hput_hput]
  have hc9 : hh9.1 h.2.1 = some (eO 1 [aN, aR (h.2.1 + 1), aR (h.2.1 + 3), aI 0, aI 0, aL 0, aL 0, aL 0, aL 0, aI 0, aI 0, aI 0, aI 0, aI 0]) := by rw [hq9]; exact hput_eq
  have hb9 : hh9.2.2.2.1 ≤ h.2.1 := by rw [hq9]; exact hb0
  refine g_aload_n rfl rfl ?_
  refine g_lconst (m := 0) rfl rfl ?_
  refine g_put (ci := 1) (kk := 8) (fs' := [aN, aR (h.2.1 + 1), aR (h.2.1 + 3), aI 0, aI 0, aL 0, aL 0, aL 0, aL 0, aI 0, aI 0, aI 0, aI 0, aI 0]) rfl rfl hc9 hb9 (Nat.le_of_ble_eq_true rfl) rfl (by decide) rfl ?_
  generalize hg_hh10 : hput hh9 h.2.1 (eO 1 [aN, aR (h.2.1 + 1), aR (h.2.1 + 3), aI 0, aI 0, aL 0, aL 0, aL 0, aL 0, aI 0, aI 0, aI 0, aI 0, aI 0]) = hh10
  have hq10 : hh10 = hput (nRow (nRow H0)) h.2.1 (eO 1 [aN, aR (h.2.1 + 1), aR (h.2.1 + 3), aI 0, aI 0, aL 0, aL 0, aL 0, aL 0, aI 0, aI 0, aI 0, aI 0, aI 0]) := by rw [← hg_hh10, hq9, hput_hput]
  have hc10 : hh10.1 h.2.1 = some (eO 1 [aN, aR (h.2.1 + 1), aR (h.2.1 + 3), aI 0, aI 0, aL 0, aL 0, aL 0, aL 0, aI 0, aI 0, aI 0, aI 0, aI 0]) := by rw [hq10]; exact hput_eq
  have hb10 : hh10.2.2.2.1 ≤ h.2.1 := by rw [hq10]; exact hb0
  refine g_aload_n rfl rfl ?_
  refine g_iconst (n := -1) rfl (by decide) ?_
  refine g_put (ci := 1) (kk := 9) (fs' := [aN, aR (h.2.1 + 1), aR (h.2.1 + 3), aI 0, aI 0, aL 0, aL 0, aL 0, aL 0, aI (-1), aI 0, aI 0, aI 0, aI 0]) rfl rfl hc10 hb10 (Nat.le_of_ble_eq_true rfl) rfl (by decide) rfl ?_
  generalize hg_hh11 : hput hh10 h.2.1 (eO 1 [aN, aR (h.2.1 + 1), aR (h.2.1 + 3), aI 0, aI 0, aL 0, aL 0, aL 0, aL 0, aI (-1), aI 0, aI 0, aI 0, aI 0]) = hh11
  have hq11 : hh11 = hput (nRow (nRow H0)) h.2.1 (eO 1 [aN, aR (h.2.1 + 1), aR (h.2.1 + 3), aI 0, aI 0, aL 0, aL 0, aL 0, aL 0, aI (-1), aI 0, aI 0, aI 0, aI 0]) := by rw [← hg_hh11, hq10, hput_hput]
  have hc11 : hh11.1 h.2.1 = some (eO 1 [aN, aR (h.2.1 + 1), aR (h.2.1 + 3), aI 0, aI 0, aL 0, aL 0, aL 0, aL 0, aI (-1), aI 0, aI 0, aI 0, aI 0]) := by rw [hq11]; exact hput_eq
  have hb11 : hh11.2.2.2.1 ≤ h.2.1 := by rw [hq11]; exact hb0
  refine g_aload_n rfl rfl ?_
  refine g_iconst (n := -1) rfl (by decide) ?_
  refine g_put (ci := 1) (kk := 10) (fs' := [aN, aR (h.2.1 + 1), aR (h.2.1 + 3), aI 0, aI 0, aL 0, aL 0, aL 0, aL 0, aI (-1), aI (-1), aI 0, aI 0, aI 0]) rfl rfl hc11 hb11 (Nat.le_of_ble_eq_true rfl) rfl (by decide) rfl ?_
  generalize hg_hh12 : hput hh11 h.2.1 (eO 1 [aN, aR (h.2.1 + 1), aR (h.2.1 + 3), aI 0, aI 0, aL 0, aL 0, aL 0, aL 0, aI (-1), aI (-1), aI 0, aI 0, aI 0]) = hh12
  have hq12 : hh12 = hput (nRow (nRow H0)) h.2.1 (eO 1 [aN, aR (h.2.1 + 1), aR (h.2.1 + 3), aI 0, aI 0, aL 0, aL 0, aL 0, aL 0, aI (-1), aI (-1), aI 0, aI 0, aI 0]) := by rw [← hg_hh12, hq11, hput_hput]
  have hc12 : hh12.1 h.2.1 = some (eO 1 [aN, aR (h.2.1 + 1), aR (h.2.1 + 3), aI 0, aI 0, aL 0, aL 0, aL 0, aL 0, aI (-1), aI (-1), aI 0, aI 0, aI 0]) := by rw [hq12]; exact hput_eq
  have hb12 : hh12.2.2.2.1 ≤ h.2.1 := by rw [hq12]; exact hb0
  refine g_aload_n rfl rfl ?_
  refine g_iconst (n := 0) rfl (by decide) ?_
  refine g_put (ci := 1) (kk := 11) (fs' := [aN, aR (h.2.1 + 1), aR (h.2.1 + 3), aI 0, aI 0, aL 0, aL 0, aL 0, aL 0, aI (-1), aI (-1), aI 0, aI 0, aI 0]) rfl rfl hc12 hb12 (Nat.le_of_ble_eq_true rfl) rfl (by decide) rfl ?_
  generalize hg_hh13 : hput hh12 h.2.1 (eO 1 [aN, aR (h.2.1 + 1), aR (h.2.1 + 3), aI 0, aI 0, aL 0, aL 0, aL 0, aL 0, aI (-1), aI (-1), aI 0, aI 0, aI 0]) = hh13
  have hq13 : hh13 = hput (nRow (nRow H0)) h.2.1 (eO 1 [aN, aR (h.2.1 + 1), aR (h.2.1 + 3), aI 0, aI 0, aL 0, aL 0, aL 0, aL 0, aI (-1), aI (-1), aI 0, aI 0, aI 0]) := by rw [← hg_hh13, hq12, hput_hput]
  have hc13 : hh13.1 h.2.1 = some (eO 1 [aN, aR (h.2.1 + 1), aR (h.2.1 + 3), aI 0, aI 0, aL 0, aL 0, aL 0, aL 0, aI (-1), aI (-1), aI 0, aI 0, aI 0]) := by rw [hq13]; exact hput_eq
  have hb13 : hh13.2.2.2.1 ≤ h.2.1 := by rw [hq13]; exact hb0
  refine g_aload_n rfl rfl ?_
  refine g_iconst (n := 0) rfl (by decide) ?_
  refine g_put (ci := 1) (kk := 12) (fs' := [aN, aR (h.2.1 + 1), aR (h.2.1 + 3), aI 0, aI 0, aL 0, aL 0, aL 0, aL 0, aI (-1), aI (-1), aI 0, aI 0, aI 0]) rfl rfl hc13 hb13 (Nat.le_of_ble_eq_true rfl) rfl (by decide) rfl ?_
  generalize hg_hh14 : hput hh13 h.2.1 (eO 1 [aN, aR (h.2.1 + 1), aR (h.2.1 + 3), aI 0, aI 0, aL 0, aL 0, aL 0, aL 0, aI (-1), aI (-1), aI 0, aI 0, aI 0]) = hh14
  have hq14 : hh14 = hput (nRow (nRow H0)) h.2.1 (eO 1 [aN, aR (h.2.1 + 1), aR (h.2.1 + 3), aI 0, aI 0, aL 0, aL 0, aL 0, aL 0, aI (-1), aI (-1), aI 0, aI 0, aI 0]) := by rw [← hg_hh14, hq13, hput_hput]
  have hc14 : hh14.1 h.2.1 = some (eO 1 [aN, aR (h.2.1 + 1), aR (h.2.1 + 3), aI 0, aI 0, aL 0, aL 0, aL 0, aL 0, aI (-1), aI (-1), aI 0, aI 0, aI 0]) := by rw [hq14]; exact hput_eq
  have hb14 : hh14.2.2.2.1 ≤ h.2.1 := by rw [hq14]; exact hb0
  refine g_aload_n rfl rfl ?_
  refine g_iconst (n := -1) rfl (by decide) ?_
  refine g_put (ci := 1) (kk := 13) (fs' := [aN, aR (h.2.1 + 1), aR (h.2.1 + 3), aI 0, aI 0, aL 0, aL 0, aL 0, aL 0, aI (-1), aI (-1), aI 0, aI 0, aI (-1)]) rfl rfl hc14 hb14 (Nat.le_of_ble_eq_true rfl) rfl (by decide) rfl ?_
  generalize hg_hh15 : hput hh14 h.2.1 (eO 1 [aN, aR (h.2.1 + 1), aR (h.2.1 + 3), aI 0, aI 0, aL 0, aL 0, aL 0, aL 0, aI (-1), aI (-1), aI 0, aI 0, aI (-1)]) = hh15
  have hq15 : hh15 = hput (nRow (nRow H0)) h.2.1 (eO 1 [aN, aR (h.2.1 + 1), aR (h.2.1 + 3), aI 0, aI 0, aL 0, aL 0, aL 0, aL 0, aI (-1), aI (-1), aI 0, aI 0, aI (-1)]) := by rw [← hg_hh15, hq14, hput_hput]
  have hc15 : hh15.1 h.2.1 = some (eO 1 [aN, aR (h.2.1 + 1), aR (h.2.1 + 3), aI 0, aI 0, aL 0, aL 0, aL 0, aL 0, aI (-1), aI (-1), aI 0, aI 0, aI (-1)]) := by rw [hq15]; exact hput_eq
  have hb15 : hh15.2.2.2.1 ≤ h.2.1 := by rw [hq15]; exact hb0
  refine g_aload_n rfl rfl ?_
  refine g_aload_n rfl rfl ?_
  refine g_put (ci := 1) (kk := 0) (fs' := [aR tp, aR (h.2.1 + 1), aR (h.2.1 + 3), aI 0, aI 0, aL 0, aL 0, aL 0, aL 0, aI (-1), aI (-1), aI 0, aI 0, aI (-1)]) rfl rfl hc15 hb15 (Nat.le_of_ble_eq_true rfl) rfl (by decide) rfl ?_
  generalize hg_hh16 : hput hh15 h.2.1 (eO 1 [aR tp, aR (h.2.1 + 1), aR (h.2.1 + 3), aI 0, aI 0, aL 0, aL 0, aL 0, aL 0, aI (-1), aI (-1), aI 0, aI 0, aI (-1)]) = hh16
  have hq16 : hh16 = hput (nRow (nRow H0)) h.2.1 (eO 1 [aR tp, aR (h.2.1 + 1), aR (h.2.1 + 3), aI 0, aI 0, aL 0, aL 0, aL 0, aL 0, aI (-1), aI (-1), aI 0, aI 0, aI (-1)]) := by rw [← hg_hh16, hq15, hput_hput]
  have hc16 : hh16.1 h.2.1 = some (eO 1 [aR tp, aR (h.2.1 + 1), aR (h.2.1 + 3), aI 0, aI 0, aL 0, aL 0, aL 0, aL 0, aI (-1), aI (-1), aI 0, aI 0, aI (-1)]) := by rw [hq16]; exact hput_eq
  have hb16 : hh16.2.2.2.1 ≤ h.2.1 := by rw [hq16]; exact hb0
  exact r_v rfl rfl (by rw [hq16])
theorem hnew_put (h : AH) {a n : Nat} {e e' : AE} (ha : a < h.2.1) : hnew (hput h a e) e' n = hput (hnew h e' n) a e := by
  refine Prod.ext ?_ rfl
  funext j
  show hup (hup h.1 a e) h.2.1 e' j = hup (hup h.1 h.2.1 e') a e j
  unfold hup
  by_cases j1 : j = h.2.1
  · rw [if_pos j1, if_neg (by omega), if_pos j1]
  · rw [if_neg j1]
    by_cases j2 : j = a
    · rw [if_pos j2, if_pos j2]
    · rw [if_neg j2, if_neg j2, if_neg j1]
theorem hput_comm (h : AH) {a b : Nat} {e e' : AE} (hne : a ≠ b) : hput (hput h a e) b e' = hput (hput h b e') a e := by
  refine Prod.ext ?_ rfl
  funext j
  show hup (hup h.1 a e) b e' j = hup (hup h.1 b e') a e j
  unfold hup
  by_cases j1 : j = b
  · rw [if_pos j1, if_neg (by omega), if_pos j1]
  · rw [if_neg j1]
    by_cases j2 : j = a
    · rw [if_pos j2, if_pos j2]
    · rw [if_neg j2, if_neg j2, if_neg j1]
theorem nNd_put (h : AH) {a : Nat} {e : AE} (ha : a < h.2.1) : nNd (hput h a e) = hput (nNd h) a e := by
  unfold nNd
  rw [hnew_put h ha, nRow_put _ (by rw [hnew_2]; omega), nRow_put _ (by rw [nRow_2, hnew_2]; omega), hput_comm _ (by show a ≠ h.2.1; omega)]
  rfl
theorem nTp_put (h : AH) {a : Nat} {e : AE} (ha : a < h.2.1) : nTp (hput h a e) = hput (nTp h) a e := by
  unfold nTp
  rw [hnew_put h ha, nRow_put _ (by rw [hnew_2]; omega), hput_comm _ (by show a ≠ h.2.1; omega)]
  rfl
theorem nWr_put (h : AH) {a tp : Nat} {e : AE} (ha : a < h.2.1) : nWr (hput h a e) tp = hput (nWr h tp) a e := by
  unfold nWr
  rw [hnew_put h ha, nRow_put _ (by rw [hnew_2]; omega), hput_comm _ (by show a ≠ h.2.1; omega)]
  rfl
theorem nRd_put (h : AH) {a tp : Nat} {e : AE} (ha : a < h.2.1) : nRd (hput h a e) tp = hput (nRd h tp) a e := by
  unfold nRd
  rw [hnew_put h ha, nRow_put _ (by rw [hnew_2]; omega), nRow_put _ (by rw [nRow_2, hnew_2]; omega), hput_comm _ (by show a ≠ h.2.1; omega)]
  rfl
theorem nNd_2 (h : AH) : (nNd h).2.1 = h.2.1 + 5 := rfl
theorem nTrF_2 (h : AH) : ∀ i, (nTrF h i).2.1 = h.2.1 + 3 + 5 * i := by
  intro i
  induction i with
  | zero => rfl
  | succ i ih =>
    show (nNd (nTrF h i)).2.1 = _
    rw [nNd_2, ih]
    omega
theorem nTrF_k (h : AH) : ∀ i, (nTrF h i).2.2.2 = h.2.2.2 ∧ (nTrF h i).2.2.1 = h.2.2.1 + 63 + 44 * i := by
  intro i
  induction i with
  | zero => exact ⟨rfl, rfl⟩
  | succ i ih =>
    refine ⟨ih.1, ?_⟩
    show (nTrF h i).2.2.1 + 8 + 18 + 18 = _
    rw [ih.2]
    omega
theorem nTrF_put (h : AH) {a : Nat} {e : AE} (ha : a < h.2.1) : ∀ i, nTrF (hput h a e) i = hput (nTrF h i) a e := by
  intro i
  induction i with
  | zero =>
    show hput (hnew (hnew (hnew (hput h a e) _ 3) _ 30) _ 30) h.2.1 _ = hput (hput (hnew (hnew (hnew h _ 3) _ 30) _ 30) h.2.1 _) a e
    rw [hnew_put h ha, hnew_put _ (by rw [hnew_2]; omega), hnew_put _ (by rw [hnew_2, hnew_2]; omega), hput_comm _ (by omega)]
    rfl
  | succ i ih =>
    show hput (nNd (nTrF (hput h a e) i)) (h.2.1 + 1) _ = hput (hput (nNd (nTrF h i)) (h.2.1 + 1) _) a e
    rw [ih, nNd_put _ (by rw [nTrF_2]; omega), hput_comm _ (by omega)]
    rfl
/-- the k-th cell of a new node at a -/
def ndc (a k : Nat) : AE := if k = 0 then eO 0 [aR (a + 1), aR (a + 3), aI 0, aI (-1), aI (-1), aI 0, aI 0, aI 0] else if k = 1 then eO 2 [aR (a + 2), aI 0] else if k = 3 then eO 2 [aR (a + 4), aI 0] else eA 1 16 (fun _ => 0)
theorem nNd_old (h : AH) {b : Nat} (hb : b < h.2.1) : (nNd h).1 b = h.1 b := by
  unfold nNd
  rw [hput_ne (by omega), nRow_old _ (by rw [nRow_2, hnew_2]; omega), nRow_old _ (by rw [hnew_2]; omega), hnew_ne (by omega)]
theorem nNd_cell (h : AH) {k : Nat} (hk : k < 5) : (nNd h).1 (h.2.1 + k) = some (ndc h.2.1 k) := by
  have a1 := nRow_at (hnew h (eO 0 (tD 0)) 8)
  have b1 := nRow_by (hnew h (eO 0 (tD 0)) 8)
  have a2 := nRow_at (nRow (hnew h (eO 0 (tD 0)) 8))
  have b2 := nRow_by (nRow (hnew h (eO 0 (tD 0)) 8))
  rw [hnew_2] at a1 b1
  rw [nRow_2, hnew_2] at a2 b2
  rcases (by omega : k = 0 ∨ k = 1 ∨ k = 2 ∨ k = 3 ∨ k = 4) with q | q | q | q | q <;> subst q
  · exact hput_eq
  · unfold nNd
    rw [hput_ne (by omega), nRow_old _ (by rw [nRow_2, hnew_2]; omega), a1]
    rfl
  · unfold nNd
    rw [hput_ne (by omega), nRow_old _ (by rw [nRow_2, hnew_2]; omega), b1]
    rfl
  · unfold nNd
    rw [hput_ne (by omega), show h.2.1 + 3 = h.2.1 + 1 + 2 from rfl, a2]
    rfl
  · unfold nNd
    rw [hput_ne (by omega), show h.2.1 + 4 = h.2.1 + 1 + 2 + 1 from rfl, b2]
    rfl
theorem nTrF_old (h : AH) {b : Nat} (hb : b < h.2.1) : ∀ i, (nTrF h i).1 b = h.1 b := by
  intro i
  induction i with
  | zero =>
    show (nTr0 h).1 b = _
    unfold nTr0
    rw [hput_ne (by omega), hnew_ne (by rw [hnew_2, hnew_2]; omega), hnew_ne (by rw [hnew_2]; omega), hnew_ne (by omega)]
  | succ i ih =>
    show (hput (nNd (nTrF h i)) (h.2.1 + 1) _).1 b = _
    rw [hput_ne (by omega), nNd_old _ (by rw [nTrF_2]; omega), ih]
theorem nTrF_top (h : AH) : ∀ i, (nTrF h i).1 h.2.1 = some (eO 4 [aR (h.2.1 + 1), aI 1, aR (h.2.1 + 2)]) ∧ (nTrF h i).1 (h.2.1 + 1) = some (eQ 3 30 (arN h.2.1 i)) ∧ (nTrF h i).1 (h.2.1 + 2) = some (eA 0 30 (fun _ => 0)) := by
  intro i
  induction i with
  | zero =>
    refine ⟨hput_eq, ?_, ?_⟩
    · show (nTr0 h).1 _ = _
      unfold nTr0
      rw [hput_ne (by omega), hnew_ne (by rw [hnew_2, hnew_2]; omega)]
      exact hnew_eq (h := hnew h (eO 4 (tD 4)) 3)
    · show (nTr0 h).1 _ = _
      unfold nTr0
      rw [hput_ne (by omega)]
      exact hnew_eq (h := hnew (hnew h (eO 4 (tD 4)) 3) (eQ 3 30 (arN h.2.1 0)) 30)
  | succ i ih =>
    refine ⟨?_, hput_eq, ?_⟩
    · show (hput (nNd (nTrF h i)) (h.2.1 + 1) _).1 h.2.1 = _
      rw [hput_ne (by omega), nNd_old _ (by rw [nTrF_2]; omega), ih.1]
    · show (hput (nNd (nTrF h i)) (h.2.1 + 1) _).1 (h.2.1 + 2) = _
      rw [hput_ne (by omega), nNd_old _ (by rw [nTrF_2]; omega), ih.2.2]
theorem nTrF_cell (h : AH) : ∀ i j k, j < i → k < 5 → (nTrF h i).1 (h.2.1 + 3 + 5 * j + k) = some (ndc (h.2.1 + 3 + 5 * j) k) := by
  intro i
  induction i with
  | zero => intro j k hj; omega
  | succ i ih =>
    intro j k hj hk
    show (hput (nNd (nTrF h i)) (h.2.1 + 1) _).1 _ = _
    rw [hput_ne (by omega)]
    by_cases e : j = i
    · subst e
      have := nNd_cell (nTrF h j) hk
      rw [nTrF_2] at this
      exact this
    · rw [nNd_old _ (by rw [nTrF_2]; omega)]
      exact ih j k (by omega) hk
theorem tr_loop (hb : h.2.2.2.1 ≤ h.2.1) : ∀ (n i : Nat), i + n = 30 → Go (d + 2) yTr_init 28 [aR h.2.1, aI (i : Int)] [] (nTrF h i) (RV none (fun h2 => h2 = nTrF h 30)) := by
  intro n
  induction n with
  | zero =>
    intro i hi
    obtain rfl : i = 30 := by omega
    refine g_iload_n rfl rfl ?_
    refine g_bipush (n := 30) rfl (by decide) ?_
    refine g_icmpge rfl rfl (fun c => ?_) (fun c => absurd c (by omega))
    exact r_v rfl rfl rfl
  | succ n ih =>
    intro i hi
    have h2 := nTrF_2 h i
    have hk := nTrF_k h i
    obtain ⟨t1, t2, t3⟩ := nTrF_top h i
    have hbk : (nTrF h i).2.2.2.1 = h.2.2.2.1 := by rw [hk.1]
    refine g_iload_n rfl rfl ?_
    refine g_bipush (n := 30) rfl (by decide) ?_
    refine g_icmpge rfl rfl (fun c => absurd c (by omega)) (fun c => ?_)
    refine g_aload_n rfl rfl ?_
    refine g_get (ci := 4) (kk := 0) rfl rfl t1 (by omega) rfl ?_
    refine g_iload_n rfl rfl ?_
    refine g_new (ci := 0) rfl rfl rfl ?_
    refine g_dup rfl rfl ?_
    refine g_I (z := yNd_init) (e := 1) (A := []) (rest := [aR (nTrF h i).2.1, aI (i : Int), aR (h.2.1 + 1)]) rfl rfl rfl rfl rfl rfl (by omega) (c_ndNew (h := nTrF h i) (by omega) (by omega)) ?_
    intro hh1 hz
    subst hz
    have c0 := nNd_cell (nTrF h i) (k := 0) (by omega)
    refine g_aast rfl ((nNd_old _ (by omega)).trans t2) c0 rfl (by show (nTrF h i).2.2.2.1 ≤ _; omega) (by show (nTrF h i).2.2.2.1 ≤ _; omega) (by omega) ?_
    refine g_iinc (L' := [aR h.2.1, aI ((i : Int) + 1)]) rfl rfl (by omega) rfl ?_
    refine g_goto rfl rfl ?_
    have e : va_up (arN h.2.1 i) (i : Int).toNat (some ((nTrF h i).2.1 + 0)) = arN h.2.1 (i + 1) := by
      funext j
      rw [h2, Int.toNat_natCast]
      unfold va_up arN
      by_cases j1 : j = i
      · rw [if_pos j1, if_pos (by omega), j1]
        rfl
      · rw [if_neg j1]
        by_cases j2 : j < i
        · rw [if_pos j2, if_pos (by omega)]
        · rw [if_neg j2, if_neg (by omega)]
    have e2 : hput (nNd (nTrF h i)) (h.2.1 + 1) (eQ 3 30 (va_up (arN h.2.1 i) (i : Int).toNat (some ((nTrF h i).2.1 + 0)))) = nTrF h (i + 1) := by
      rw [e]
      rfl
    have h9 := ih (i + 1) (by omega)
    rw [← e2] at h9
    exact h9
theorem c_trNew (hd2 : 2 ≤ d) (hb : h.2.2.2.1 ≤ h.2.1) : Cal d yTr_init [aR h.2.1] (hnew h (eO 4 (tD 4)) 3) (RV none (fun h2 => h2 = nTrF h 30)) := by
  obtain ⟨d, rfl⟩ : ∃ e, d = e + 2 := ⟨d - 2, by omega⟩
  obtain ⟨H0, hH0⟩ : ∃ H, hnew h (eO 4 (tD 4)) 3 = H := ⟨_, rfl⟩
  have hn0 : H0.2.1 = h.2.1 + 1 := by rw [← hH0]; rfl
  have hc0 : H0.1 h.2.1 = some (eO 4 (tD 4)) := by rw [← hH0]; exact hnew_eq
  have hb0 : H0.2.2.2.1 ≤ h.2.1 := by rw [← hH0]; exact hb
  have e0 : (fun _ => none : Nat → Option Nat) = arN h.2.1 0 := by
    funext j
    unfold arN
    rw [if_neg (by omega)]
  rw [hH0]
  show Go _ _ 0 [aR h.2.1, none] [] _ _
  refine g_aload_n rfl rfl ?_
  refine g_obj rfl rfl rfl (Nat.le_of_ble_eq_true rfl) ?_
  refine g_aload_n rfl rfl ?_
  refine g_bipush (n := 30) rfl (by decide) ?_
  refine g_newq rfl rfl (by decide) ?_
  rw [e0, hn0]
  refine g_put (ci := 4) (kk := 0) (fs' := [aR (h.2.1 + 1), aI 0, aN]) rfl rfl ((hnew_ne (by omega)).trans hc0) hb0 (Nat.le_of_ble_eq_true rfl) rfl (by decide) rfl ?_
  refine g_aload_n rfl rfl ?_
  refine g_iconst (n := 1) rfl (by decide) ?_
  refine g_put (ci := 4) (kk := 1) (fs' := [aR (h.2.1 + 1), aI 1, aN]) rfl rfl hput_eq hb0 (Nat.le_of_ble_eq_true rfl) rfl (by decide) rfl ?_
  rw [hput_hput]
  refine g_aload_n rfl rfl ?_
  refine g_bipush (n := 30) rfl (by decide) ?_
  refine g_newa (kd := 0) rfl rfl (by decide) ?_
  rw [hnew_put _ (by rw [hnew_2]; omega), show (hput (hnew H0 (eQ 3 (30 : Int).toNat (arN h.2.1 0)) (30 : Int).toNat) h.2.1 (eO 4 [aR (h.2.1 + 1), aI 1, aN])).2.1 = h.2.1 + 2 from by rw [hput_2, hnew_2]; omega]
  refine g_put (ci := 4) (kk := 2) (fs' := [aR (h.2.1 + 1), aI 1, aR (h.2.1 + 2)]) rfl rfl hput_eq hb0 (Nat.le_of_ble_eq_true rfl) rfl (by decide) rfl ?_
  rw [hput_hput, ← hH0]
  refine g_iconst (n := 0) rfl (by decide) ?_
  refine g_istore_n (L' := [aR h.2.1, aI 0]) rfl rfl ?_
  exact tr_loop (d := d) hb 30 0 (by omega)
end NewC
