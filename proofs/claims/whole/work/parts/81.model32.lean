/-! The reference: a new one. -/
section Md32
variable {B h : AH} {m0 d k S : Nat} {fs fs' : List AV} {F : Nat → Nat → Int} {s : MS}
def IM (B : AH) (m0 : Nat) (h : AH) (fs : List AV) (k : Nat) (F : Nat → Nat → Int) (S : Nat) : Prop := h.2.1 = m0 + k ∧ h.2.2.2 = B.2.2.2 ∧ (∀ a, a < m0 → h.1 a = B.1 a) ∧ h.1 m0 = some (eO 8 fs) ∧ (∀ j, 1 ≤ j → j < k → h.1 (m0 + j) = some (eA (mty j) (mln j) (F j))) ∧ h.2.2.1 = B.2.2.1 + S ∧ B.2.2.2.1 ≤ m0
theorem IM.ob (i : IM B m0 h fs k F S) : h.1 m0 = some (eO 8 fs) := i.2.2.2.1
theorem IM.b0 (i : IM B m0 h fs k F S) : h.2.2.2.1 ≤ m0 := by
  rw [i.2.1]
  exact i.2.2.2.2.2.2
theorem IM.new (i : IM B m0 h fs k F S) (hk : 1 ≤ k) {kd n S' k' : Nat} (hkd : kd = mty k) (hn : n = mln k) (hF : F k = fun _ => 0) (hS : S' = S + n) (hk' : k' = k + 1) : IM B m0 (hnew h (eA kd n (fun _ => 0)) n) fs k' F S' := by
  obtain ⟨i1, i2, i3, i4, i5, i6, i7⟩ := i
  subst hk'
  refine ⟨?_, i2, fun a ha => ?_, ?_, fun j j1 j2 => ?_, ?_, i7⟩
  · show h.2.1 + 1 = m0 + (k + 1)
    omega
  · show hup h.1 h.2.1 _ a = _
    unfold hup
    rw [if_neg (by omega)]
    exact i3 a ha
  · show hup h.1 h.2.1 _ m0 = _
    unfold hup
    rw [if_neg (by omega)]
    exact i4
  · show hup h.1 h.2.1 _ (m0 + j) = _
    unfold hup
    by_cases e : j = k
    · rw [if_pos (by omega), e, hkd, hn, hF]
    · rw [if_neg (by omega)]
      exact i5 j j1 (by omega)
  · show h.2.2.1 + n = _
    omega
theorem IM.put (i : IM B m0 h fs k F S) {h2 : AH} (g : hput h m0 (eO 8 fs') = h2) : IM B m0 h2 fs' k F S := by
  subst g
  obtain ⟨i1, i2, i3, i4, i5, i6, i7⟩ := i
  refine ⟨i1, i2, fun a ha => ?_, ?_, fun j j1 j2 => ?_, i6, i7⟩
  · show hup h.1 m0 _ a = _
    unfold hup
    rw [if_neg (by omega)]
    exact i3 a ha
  · show hup h.1 m0 _ m0 = _
    unfold hup
    rw [if_pos rfl]
  · show hup h.1 m0 _ (m0 + j) = _
    unfold hup
    rw [if_neg (by omega)]
    exact i5 j j1 j2
theorem IM.set (i : IM B m0 h fs k F S) {a x : Nat} {v : Int} (h1 : 1 ≤ a) (h2 : a < k) : IM B m0 (hput h (m0 + a) (eA (mty a) (mln a) (va_up (F a) x v))) fs k (va_up F a (va_up (F a) x v)) S := by
  obtain ⟨i1, i2, i3, i4, i5, i6, i7⟩ := i
  refine ⟨i1, i2, fun b hb => ?_, ?_, fun j j1 j2 => ?_, i6, i7⟩
  · show hup h.1 (m0 + a) _ b = _
    unfold hup
    rw [if_neg (by omega)]
    exact i3 b hb
  · show hup h.1 (m0 + a) _ m0 = _
    unfold hup
    rw [if_neg (by omega)]
    exact i4
  · show hup h.1 (m0 + a) _ (m0 + j) = _
    unfold hup
    by_cases e : j = a
    · rw [if_pos (by omega), e]
      simp [va_up]
    · rw [if_neg (by omega), i5 j j1 j2]
      simp [va_up, e]
theorem IM.wm (i : IM B m0 h fs 21 F S) (hs : eO 8 fs = mcel m0 s.2) (hF : s.1 = F) (h8 : ∀ k j, mty k = 1 → r8 (F k j)) : WM h m0 h s := by
  obtain ⟨i1, i2, i3, i4, i5, i6, i7⟩ := i
  exact ⟨rfl, fun _ _ => rfl, by rw [i4, hs], fun k h1 h2 => by rw [hF]; exact i5 k h1 (by omega), by rw [i2]; exact i7, by rw [hF]; exact h8⟩
theorem WM.rb (hW : WM B m0 h s) : WM h m0 h s := by
  obtain ⟨w1, w2, w3, w4, w5, w6⟩ := hW
  exact ⟨rfl, fun _ _ => rfl, w3, w4, by rw [w1]; exact w5, w6⟩
theorem m_init (hd1 : 1 ≤ d) (hb : h.2.2.2.1 ≤ h.2.1) : Cal d yMd_init [aR h.2.1] (hnew h (eO 8 (tD 8)) (tD 8).length) (RV none (fun h2 => h2.2 = (h.2.1 + 21, h.2.2.1 + 140231, h.2.2.2) ∧ (∀ a, a < h.2.1 → h2.1 a = h.1 a) ∧ ∃ s, WM h2 h.2.1 h2 s ∧ MOK s ∧ ONE (mst s) 0 ∧ pg s = [] ∧ s.2 11 = 0 ∧ s.2 14 = -1)) := by
  show Go _ _ 0 [aR h.2.1] [] _ _
  obtain ⟨m0, hm⟩ : ∃ m0, m0 = h.2.1 := ⟨_, rfl⟩
  have hI : IM h m0 (hnew h (eO 8 (tD 8)) (tD 8).length) (tD 8) 1 (fun _ _ => 0) 27 := by
    refine ⟨by show h.2.1 + 1 = m0 + 1; omega, rfl, fun a ha => ?_, ?_, fun j j1 j2 => by omega, rfl, by omega⟩
    · show hup h.1 h.2.1 _ a = _
      unfold hup
      rw [if_neg (by omega)]
    · show hup h.1 h.2.1 _ m0 = _
      unfold hup
      rw [if_pos hm]
  rw [show (aR h.2.1 : AV) = aR m0 by rw [hm]]
  generalize hnew h (eO 8 (tD 8)) (tD 8).length = g0 at hI ⊢
  refine g_aload_n rfl rfl ?_
  refine g_obj rfl rfl rfl (Nat.le_of_ble_eq_true rfl) ?_
  refine g_aload_n rfl rfl ?_
  refine g_bipush (n := 60) rfl (by decide) ?_
  refine g_newa (kd := 0) rfl rfl (by decide) ?_
  generalize hg_hh1 : hnew g0 (eA 0 (60 : Int).toNat (fun _ => 0)) (60 : Int).toNat = hh1
  have e9 : g0.2.1 = m0 + 1 := hI.1
  replace hI := hI.new (by decide) (kd := 0) (n := (60 : Int).toNat) (S' := 87) (k' := 2) rfl rfl rfl rfl rfl
  rw [hg_hh1] at hI
  rw [e9]
  clear e9 hg_hh1
  refine g_put (ci := 8) (kk := 0) (fs' := [aR (m0 + 1), (some (.inr (.inr none))), (some (.inr (.inr none))), (some (.inr (.inr none))), (some (.inr (.inr none))), (some (.inr (.inr none))), (some (.inr (.inr none))), (some (.inr (.inr none))), (some (.inr (.inr none))), (some (.inr (.inr none))), (some (.inr (.inr none))), aI 0, (some (.inr (.inr none))), aI 0, aI 0, (some (.inr (.inr none))), aI 0, aI 0, aI 0, (some (.inr (.inr none))), (some (.inr (.inr none))), (some (.inr (.inr none))), (some (.inr (.inr none))), (some (.inr (.inr none))), (some (.inr (.inr none))), (some (.inr (.inr none))), aI 0]) rfl rfl hI.ob hI.b0 (Nat.le_of_ble_eq_true rfl) rfl (by decide) rfl ?_
  generalize hg_hh2 : hput hh1 m0 (eO 8 [aR (m0 + 1), (some (.inr (.inr none))), (some (.inr (.inr none))), (some (.inr (.inr none))), (some (.inr (.inr none))), (some (.inr (.inr none))), (some (.inr (.inr none))), (some (.inr (.inr none))), (some (.inr (.inr none))), (some (.inr (.inr none))), (some (.inr (.inr none))), aI 0, (some (.inr (.inr none))), aI 0, aI 0, (some (.inr (.inr none))), aI 0, aI 0, aI 0, (some (.inr (.inr none))), (some (.inr (.inr none))), (some (.inr (.inr none))), (some (.inr (.inr none))), (some (.inr (.inr none))), (some (.inr (.inr none))), (some (.inr (.inr none))), aI 0]) = hh2
  replace hI := hI.put hg_hh2
  clear hg_hh2
  refine g_aload_n rfl rfl ?_
  refine g_bipush (n := 60) rfl (by decide) ?_
  refine g_newa (kd := 0) rfl rfl (by decide) ?_
  generalize hg_hh3 : hnew hh2 (eA 0 (60 : Int).toNat (fun _ => 0)) (60 : Int).toNat = hh3
  have e9 : hh2.2.1 = m0 + 2 := hI.1
  replace hI := hI.new (by decide) (kd := 0) (n := (60 : Int).toNat) (S' := 147) (k' := 3) rfl rfl rfl rfl rfl
  rw [hg_hh3] at hI
  rw [e9]
  clear e9 hg_hh3
  refine g_put (ci := 8) (kk := 1) (fs' := [aR (m0 + 1), aR (m0 + 2), (some (.inr (.inr none))), (some (.inr (.inr none))), (some (.inr (.inr none))), (some (.inr (.inr none))), (some (.inr (.inr none))), (some (.inr (.inr none))), (some (.inr (.inr none))), (some (.inr (.inr none))), (some (.inr (.inr none))), aI 0, (some (.inr (.inr none))), aI 0, aI 0, (some (.inr (.inr none))), aI 0, aI 0, aI 0, (some (.inr (.inr none))), (some (.inr (.inr none))), (some (.inr (.inr none))), (some (.inr (.inr none))), (some (.inr (.inr none))), (some (.inr (.inr none))), (some (.inr (.inr none))), aI 0]) rfl rfl hI.ob hI.b0 (Nat.le_of_ble_eq_true rfl) rfl (by decide) rfl ?_
  generalize hg_hh4 : hput hh3 m0 (eO 8 [aR (m0 + 1), aR (m0 + 2), (some (.inr (.inr none))), (some (.inr (.inr none))), (some (.inr (.inr none))), (some (.inr (.inr none))), (some (.inr (.inr none))), (some (.inr (.inr none))), (some (.inr (.inr none))), (some (.inr (.inr none))), (some (.inr (.inr none))), aI 0, (some (.inr (.inr none))), aI 0, aI 0, (some (.inr (.inr none))), aI 0, aI 0, aI 0, (some (.inr (.inr none))), (some (.inr (.inr none))), (some (.inr (.inr none))), (some (.inr (.inr none))), (some (.inr (.inr none))), (some (.inr (.inr none))), (some (.inr (.inr none))), aI 0]) = hh4
  replace hI := hI.put hg_hh4
  clear hg_hh4
  refine g_aload_n rfl rfl ?_
  refine g_bipush (n := 60) rfl (by decide) ?_
  refine g_newa (kd := 0) rfl rfl (by decide) ?_
  generalize hg_hh5 : hnew hh4 (eA 0 (60 : Int).toNat (fun _ => 0)) (60 : Int).toNat = hh5
  have e9 : hh4.2.1 = m0 + 3 := hI.1
  replace hI := hI.new (by decide) (kd := 0) (n := (60 : Int).toNat) (S' := 207) (k' := 4) rfl rfl rfl rfl rfl
  rw [hg_hh5] at hI
  rw [e9]
  clear e9 hg_hh5
  refine g_put (ci := 8) (kk := 2) (fs' := [aR (m0 + 1), aR (m0 + 2), aR (m0 + 3), (some (.inr (.inr none))), (some (.inr (.inr none))), (some (.inr (.inr none))), (some (.inr (.inr none))), (some (.inr (.inr none))), (some (.inr (.inr none))), (some (.inr (.inr none))), (some (.inr (.inr none))), aI 0, (some (.inr (.inr none))), aI 0, aI 0, (some (.inr (.inr none))), aI 0, aI 0, aI 0, (some (.inr (.inr none))), (some (.inr (.inr none))), (some (.inr (.inr none))), (some (.inr (.inr none))), (some (.inr (.inr none))), (some (.inr (.inr none))), (some (.inr (.inr none))), aI 0]) rfl rfl hI.ob hI.b0 (Nat.le_of_ble_eq_true rfl) rfl (by decide) rfl ?_
  generalize hg_hh6 : hput hh5 m0 (eO 8 [aR (m0 + 1), aR (m0 + 2), aR (m0 + 3), (some (.inr (.inr none))), (some (.inr (.inr none))), (some (.inr (.inr none))), (some (.inr (.inr none))), (some (.inr (.inr none))), (some (.inr (.inr none))), (some (.inr (.inr none))), (some (.inr (.inr none))), aI 0, (some (.inr (.inr none))), aI 0, aI 0, (some (.inr (.inr none))), aI 0, aI 0, aI 0, (some (.inr (.inr none))), (some (.inr (.inr none))), (some (.inr (.inr none))), (some (.inr (.inr none))), (some (.inr (.inr none))), (some (.inr (.inr none))), (some (.inr (.inr none))), aI 0]) = hh6
  replace hI := hI.put hg_hh6
  clear hg_hh6
  refine g_aload_n rfl rfl ?_
  refine g_bipush (n := 60) rfl (by decide) ?_
  refine g_newa (kd := 0) rfl rfl (by decide) ?_
  generalize hg_hh7 : hnew hh6 (eA 0 (60 : Int).toNat (fun _ => 0)) (60 : Int).toNat = hh7
  have e9 : hh6.2.1 = m0 + 4 := hI.1
  replace hI := hI.new (by decide) (kd := 0) (n := (60 : Int).toNat) (S' := 267) (k' := 5) rfl rfl rfl rfl rfl
  rw [hg_hh7] at hI
  rw [e9]
  clear e9 hg_hh7
  refine g_put (ci := 8) (kk := 3) (fs' := [aR (m0 + 1), aR (m0 + 2), aR (m0 + 3), aR (m0 + 4), (some (.inr (.inr none))), (some (.inr (.inr none))), (some (.inr (.inr none))), (some (.inr (.inr none))), (some (.inr (.inr none))), (some (.inr (.inr none))), (some (.inr (.inr none))), aI 0, (some (.inr (.inr none))), aI 0, aI 0, (some (.inr (.inr none))), aI 0, aI 0, aI 0, (some (.inr (.inr none))), (some (.inr (.inr none))), (some (.inr (.inr none))), (some (.inr (.inr none))), (some (.inr (.inr none))), (some (.inr (.inr none))), (some (.inr (.inr none))), aI 0]) rfl rfl hI.ob hI.b0 (Nat.le_of_ble_eq_true rfl) rfl (by decide) rfl ?_
  generalize hg_hh8 : hput hh7 m0 (eO 8 [aR (m0 + 1), aR (m0 + 2), aR (m0 + 3), aR (m0 + 4), (some (.inr (.inr none))), (some (.inr (.inr none))), (some (.inr (.inr none))), (some (.inr (.inr none))), (some (.inr (.inr none))), (some (.inr (.inr none))), (some (.inr (.inr none))), aI 0, (some (.inr (.inr none))), aI 0, aI 0, (some (.inr (.inr none))), aI 0, aI 0, aI 0, (some (.inr (.inr none))), (some (.inr (.inr none))), (some (.inr (.inr none))), (some (.inr (.inr none))), (some (.inr (.inr none))), (some (.inr (.inr none))), (some (.inr (.inr none))), aI 0]) = hh8
  replace hI := hI.put hg_hh8
  clear hg_hh8
  refine g_aload_n rfl rfl ?_
  refine g_bipush (n := 60) rfl (by decide) ?_
  refine g_newa (kd := 0) rfl rfl (by decide) ?_
  generalize hg_hh9 : hnew hh8 (eA 0 (60 : Int).toNat (fun _ => 0)) (60 : Int).toNat = hh9
  have e9 : hh8.2.1 = m0 + 5 := hI.1
  replace hI := hI.new (by decide) (kd := 0) (n := (60 : Int).toNat) (S' := 327) (k' := 6) rfl rfl rfl rfl rfl
  rw [hg_hh9] at hI
  rw [e9]
  clear e9 hg_hh9
  refine g_put (ci := 8) (kk := 4) (fs' := [aR (m0 + 1), aR (m0 + 2), aR (m0 + 3), aR (m0 + 4), aR (m0 + 5), (some (.inr (.inr none))), (some (.inr (.inr none))), (some (.inr (.inr none))), (some (.inr (.inr none))), (some (.inr (.inr none))), (some (.inr (.inr none))), aI 0, (some (.inr (.inr none))), aI 0, aI 0, (some (.inr (.inr none))), aI 0, aI 0, aI 0, (some (.inr (.inr none))), (some (.inr (.inr none))), (some (.inr (.inr none))), (some (.inr (.inr none))), (some (.inr (.inr none))), (some (.inr (.inr none))), (some (.inr (.inr none))), aI 0]) rfl rfl hI.ob hI.b0 (Nat.le_of_ble_eq_true rfl) rfl (by decide) rfl ?_
  generalize hg_hh10 : hput hh9 m0 (eO 8 [aR (m0 + 1), aR (m0 + 2), aR (m0 + 3), aR (m0 + 4), aR (m0 + 5), (some (.inr (.inr none))), (some (.inr (.inr none))), (some (.inr (.inr none))), (some (.inr (.inr none))), (some (.inr (.inr none))), (some (.inr (.inr none))), aI 0, (some (.inr (.inr none))), aI 0, aI 0, (some (.inr (.inr none))), aI 0, aI 0, aI 0, (some (.inr (.inr none))), (some (.inr (.inr none))), (some (.inr (.inr none))), (some (.inr (.inr none))), (some (.inr (.inr none))), (some (.inr (.inr none))), (some (.inr (.inr none))), aI 0]) = hh10
  replace hI := hI.put hg_hh10
  clear hg_hh10
  refine g_aload_n rfl rfl ?_
  refine g_bipush (n := 60) rfl (by decide) ?_
  refine g_newa (kd := 0) rfl rfl (by decide) ?_
  generalize hg_hh11 : hnew hh10 (eA 0 (60 : Int).toNat (fun _ => 0)) (60 : Int).toNat = hh11
  have e9 : hh10.2.1 = m0 + 6 := hI.1
  replace hI := hI.new (by decide) (kd := 0) (n := (60 : Int).toNat) (S' := 387) (k' := 7) rfl rfl rfl rfl rfl
  rw [hg_hh11] at hI
  rw [e9]
  clear e9 hg_hh11
  refine g_put (ci := 8) (kk := 5) (fs' := [aR (m0 + 1), aR (m0 + 2), aR (m0 + 3), aR (m0 + 4), aR (m0 + 5), aR (m0 + 6), (some (.inr (.inr none))), (some (.inr (.inr none))), (some (.inr (.inr none))), (some (.inr (.inr none))), (some (.inr (.inr none))), aI 0, (some (.inr (.inr none))), aI 0, aI 0, (some (.inr (.inr none))), aI 0, aI 0, aI 0, (some (.inr (.inr none))), (some (.inr (.inr none))), (some (.inr (.inr none))), (some (.inr (.inr none))), (some (.inr (.inr none))), (some (.inr (.inr none))), (some (.inr (.inr none))), aI 0]) rfl rfl hI.ob hI.b0 (Nat.le_of_ble_eq_true rfl) rfl (by decide) rfl ?_
  generalize hg_hh12 : hput hh11 m0 (eO 8 [aR (m0 + 1), aR (m0 + 2), aR (m0 + 3), aR (m0 + 4), aR (m0 + 5), aR (m0 + 6), (some (.inr (.inr none))), (some (.inr (.inr none))), (some (.inr (.inr none))), (some (.inr (.inr none))), (some (.inr (.inr none))), aI 0, (some (.inr (.inr none))), aI 0, aI 0, (some (.inr (.inr none))), aI 0, aI 0, aI 0, (some (.inr (.inr none))), (some (.inr (.inr none))), (some (.inr (.inr none))), (some (.inr (.inr none))), (some (.inr (.inr none))), (some (.inr (.inr none))), (some (.inr (.inr none))), aI 0]) = hh12
  replace hI := hI.put hg_hh12
  clear hg_hh12
  refine g_aload_n rfl rfl ?_
  refine g_bipush (n := 60) rfl (by decide) ?_
  refine g_newa (kd := 0) rfl rfl (by decide) ?_
  generalize hg_hh13 : hnew hh12 (eA 0 (60 : Int).toNat (fun _ => 0)) (60 : Int).toNat = hh13
  have e9 : hh12.2.1 = m0 + 7 := hI.1
  replace hI := hI.new (by decide) (kd := 0) (n := (60 : Int).toNat) (S' := 447) (k' := 8) rfl rfl rfl rfl rfl
  rw [hg_hh13] at hI
  rw [e9]
  clear e9 hg_hh13
  refine g_put (ci := 8) (kk := 6) (fs' := [aR (m0 + 1), aR (m0 + 2), aR (m0 + 3), aR (m0 + 4), aR (m0 + 5), aR (m0 + 6), aR (m0 + 7), (some (.inr (.inr none))), (some (.inr (.inr none))), (some (.inr (.inr none))), (some (.inr (.inr none))), aI 0, (some (.inr (.inr none))), aI 0, aI 0, (some (.inr (.inr none))), aI 0, aI 0, aI 0, (some (.inr (.inr none))), (some (.inr (.inr none))), (some (.inr (.inr none))), (some (.inr (.inr none))), (some (.inr (.inr none))), (some (.inr (.inr none))), (some (.inr (.inr none))), aI 0]) rfl rfl hI.ob hI.b0 (Nat.le_of_ble_eq_true rfl) rfl (by decide) rfl ?_
  generalize hg_hh14 : hput hh13 m0 (eO 8 [aR (m0 + 1), aR (m0 + 2), aR (m0 + 3), aR (m0 + 4), aR (m0 + 5), aR (m0 + 6), aR (m0 + 7), (some (.inr (.inr none))), (some (.inr (.inr none))), (some (.inr (.inr none))), (some (.inr (.inr none))), aI 0, (some (.inr (.inr none))), aI 0, aI 0, (some (.inr (.inr none))), aI 0, aI 0, aI 0, (some (.inr (.inr none))), (some (.inr (.inr none))), (some (.inr (.inr none))), (some (.inr (.inr none))), (some (.inr (.inr none))), (some (.inr (.inr none))), (some (.inr (.inr none))), aI 0]) = hh14
  replace hI := hI.put hg_hh14
  clear hg_hh14
  refine g_aload_n rfl rfl ?_
  refine g_bipush (n := 60) rfl (by decide) ?_
  refine g_newa (kd := 0) rfl rfl (by decide) ?_
  generalize hg_hh15 : hnew hh14 (eA 0 (60 : Int).toNat (fun _ => 0)) (60 : Int).toNat = hh15
  have e9 : hh14.2.1 = m0 + 8 := hI.1
  replace hI := hI.new (by decide) (kd := 0) (n := (60 : Int).toNat) (S' := 507) (k' := 9) rfl rfl rfl rfl rfl
  rw [hg_hh15] at hI
  rw [e9]
  clear e9 hg_hh15
  refine g_put (ci := 8) (kk := 7) (fs' := [aR (m0 + 1), aR (m0 + 2), aR (m0 + 3), aR (m0 + 4), aR (m0 + 5), aR (m0 + 6), aR (m0 + 7), aR (m0 + 8), (some (.inr (.inr none))), (some (.inr (.inr none))), (some (.inr (.inr none))), aI 0, (some (.inr (.inr none))), aI 0, aI 0, (some (.inr (.inr none))), aI 0, aI 0, aI 0, (some (.inr (.inr none))), (some (.inr (.inr none))), (some (.inr (.inr none))), (some (.inr (.inr none))), (some (.inr (.inr none))), (some (.inr (.inr none))), (some (.inr (.inr none))), aI 0]) rfl rfl hI.ob hI.b0 (Nat.le_of_ble_eq_true rfl) rfl (by decide) rfl ?_
  generalize hg_hh16 : hput hh15 m0 (eO 8 [aR (m0 + 1), aR (m0 + 2), aR (m0 + 3), aR (m0 + 4), aR (m0 + 5), aR (m0 + 6), aR (m0 + 7), aR (m0 + 8), (some (.inr (.inr none))), (some (.inr (.inr none))), (some (.inr (.inr none))), aI 0, (some (.inr (.inr none))), aI 0, aI 0, (some (.inr (.inr none))), aI 0, aI 0, aI 0, (some (.inr (.inr none))), (some (.inr (.inr none))), (some (.inr (.inr none))), (some (.inr (.inr none))), (some (.inr (.inr none))), (some (.inr (.inr none))), (some (.inr (.inr none))), aI 0]) = hh16
  replace hI := hI.put hg_hh16
  clear hg_hh16
  refine g_aload_n rfl rfl ?_
  refine g_iconst (n := 2) rfl (by decide) ?_
  refine g_newa (kd := 0) rfl rfl (by decide) ?_
  generalize hg_hh17 : hnew hh16 (eA 0 (2 : Int).toNat (fun _ => 0)) (2 : Int).toNat = hh17
  have e9 : hh16.2.1 = m0 + 9 := hI.1
  replace hI := hI.new (by decide) (kd := 0) (n := (2 : Int).toNat) (S' := 509) (k' := 10) rfl rfl rfl rfl rfl
  rw [hg_hh17] at hI
  rw [e9]
  clear e9 hg_hh17
  have hx9 : hh17.1 (m0 + 9) = some (eA 0 2 (fun _ => 0)) := hI.2.2.2.2.1 9 (by decide) (by decide)
  have hbx9 : hh17.2.2.2.1 ≤ m0 + 9 := Nat.le_trans hI.b0 (Nat.le_add_right _ _)
  refine g_dup rfl rfl ?_
  refine g_iconst (n := 0) rfl (by decide) ?_
  refine g_iconst (n := 1) rfl (by decide) ?_
  refine g_iast rfl hx9 hbx9 (by decide) ?_
  generalize hg_hh18 : hput hh17 (m0 + 9) (eA 0 2 (va_up (fun _ => 0) (0 : Int).toNat 1)) = hh18
  replace hI := hI.set (a := 9) (x := (0 : Int).toNat) (v := 1) (by decide) (by decide)
  rw [show (eA (mty 9) (mln 9) (va_up ((fun _ _ => 0 : Nat → Nat → Int) 9) (0 : Int).toNat 1) : AE) = eA 0 2 (va_up (fun _ => 0) (0 : Int).toNat 1) from rfl, hg_hh18] at hI
  clear hg_hh18 hx9 hbx9
  have hx9 : hh18.1 (m0 + 9) = some (eA 0 2 (va_up (fun _ => 0) (0 : Int).toNat 1)) := hI.2.2.2.2.1 9 (by decide) (by decide)
  have hbx9 : hh18.2.2.2.1 ≤ m0 + 9 := Nat.le_trans hI.b0 (Nat.le_add_right _ _)
  refine g_dup rfl rfl ?_
  refine g_iconst (n := 1) rfl (by decide) ?_
  refine g_iconst (n := 1) rfl (by decide) ?_
  refine g_iast rfl hx9 hbx9 (by decide) ?_
  generalize hg_hh19 : hput hh18 (m0 + 9) (eA 0 2 (va_up (va_up (fun _ => 0) (0 : Int).toNat 1) (1 : Int).toNat 1)) = hh19
  replace hI := hI.set (a := 9) (x := (1 : Int).toNat) (v := 1) (by decide) (by decide)
  rw [show (eA (mty 9) (mln 9) (va_up ((va_up (fun _ _ => 0 : Nat → Nat → Int) 9 (va_up (fun _ => 0) (0 : Int).toNat 1)) 9) (1 : Int).toNat 1) : AE) = eA 0 2 (va_up (va_up (fun _ => 0) (0 : Int).toNat 1) (1 : Int).toNat 1) from rfl, hg_hh19] at hI
  clear hg_hh19 hx9 hbx9
  have hx9 : hh19.1 (m0 + 9) = some (eA 0 2 (va_up (va_up (fun _ => 0) (0 : Int).toNat 1) (1 : Int).toNat 1)) := hI.2.2.2.2.1 9 (by decide) (by decide)
  have hbx9 : hh19.2.2.2.1 ≤ m0 + 9 := Nat.le_trans hI.b0 (Nat.le_add_right _ _)
  refine g_put (ci := 8) (kk := 8) (fs' := [aR (m0 + 1), aR (m0 + 2), aR (m0 + 3), aR (m0 + 4), aR (m0 + 5), aR (m0 + 6), aR (m0 + 7), aR (m0 + 8), aR (m0 + 9), (some (.inr (.inr none))), (some (.inr (.inr none))), aI 0, (some (.inr (.inr none))), aI 0, aI 0, (some (.inr (.inr none))), aI 0, aI 0, aI 0, (some (.inr (.inr none))), (some (.inr (.inr none))), (some (.inr (.inr none))), (some (.inr (.inr none))), (some (.inr (.inr none))), (some (.inr (.inr none))), (some (.inr (.inr none))), aI 0]) rfl rfl hI.ob hI.b0 (Nat.le_of_ble_eq_true rfl) rfl (by decide) rfl ?_
  generalize hg_hh20 : hput hh19 m0 (eO 8 [aR (m0 + 1), aR (m0 + 2), aR (m0 + 3), aR (m0 + 4), aR (m0 + 5), aR (m0 + 6), aR (m0 + 7), aR (m0 + 8), aR (m0 + 9), (some (.inr (.inr none))), (some (.inr (.inr none))), aI 0, (some (.inr (.inr none))), aI 0, aI 0, (some (.inr (.inr none))), aI 0, aI 0, aI 0, (some (.inr (.inr none))), (some (.inr (.inr none))), (some (.inr (.inr none))), (some (.inr (.inr none))), (some (.inr (.inr none))), (some (.inr (.inr none))), (some (.inr (.inr none))), aI 0]) = hh20
  replace hI := hI.put hg_hh20
  clear hg_hh20
  refine g_aload_n rfl rfl ?_
  refine g_sipush (n := 6000) rfl (by decide) ?_
  refine g_newa (kd := 1) rfl rfl (by decide) ?_
  generalize hg_hh21 : hnew hh20 (eA 1 (6000 : Int).toNat (fun _ => 0)) (6000 : Int).toNat = hh21
  have e9 : hh20.2.1 = m0 + 10 := hI.1
  replace hI := hI.new (by decide) (kd := 1) (n := (6000 : Int).toNat) (S' := 6509) (k' := 11) rfl rfl rfl rfl rfl
  rw [hg_hh21] at hI
  rw [e9]
  clear e9 hg_hh21
  refine g_put (ci := 8) (kk := 9) (fs' := [aR (m0 + 1), aR (m0 + 2), aR (m0 + 3), aR (m0 + 4), aR (m0 + 5), aR (m0 + 6), aR (m0 + 7), aR (m0 + 8), aR (m0 + 9), aR (m0 + 10), (some (.inr (.inr none))), aI 0, (some (.inr (.inr none))), aI 0, aI 0, (some (.inr (.inr none))), aI 0, aI 0, aI 0, (some (.inr (.inr none))), (some (.inr (.inr none))), (some (.inr (.inr none))), (some (.inr (.inr none))), (some (.inr (.inr none))), (some (.inr (.inr none))), (some (.inr (.inr none))), aI 0]) rfl rfl hI.ob hI.b0 (Nat.le_of_ble_eq_true rfl) rfl (by decide) rfl ?_
  generalize hg_hh22 : hput hh21 m0 (eO 8 [aR (m0 + 1), aR (m0 + 2), aR (m0 + 3), aR (m0 + 4), aR (m0 + 5), aR (m0 + 6), aR (m0 + 7), aR (m0 + 8), aR (m0 + 9), aR (m0 + 10), (some (.inr (.inr none))), aI 0, (some (.inr (.inr none))), aI 0, aI 0, (some (.inr (.inr none))), aI 0, aI 0, aI 0, (some (.inr (.inr none))), (some (.inr (.inr none))), (some (.inr (.inr none))), (some (.inr (.inr none))), (some (.inr (.inr none))), (some (.inr (.inr none))), (some (.inr (.inr none))), aI 0]) = hh22
  replace hI := hI.put hg_hh22
  clear hg_hh22
  refine g_aload_n rfl rfl ?_
  refine g_ldc (v := 120000) rfl rfl ?_
  refine g_newa (kd := 1) rfl rfl (by decide) ?_
  generalize hg_hh23 : hnew hh22 (eA 1 (120000 : Int).toNat (fun _ => 0)) (120000 : Int).toNat = hh23
  have e9 : hh22.2.1 = m0 + 11 := hI.1
  replace hI := hI.new (by decide) (kd := 1) (n := (120000 : Int).toNat) (S' := 126509) (k' := 12) rfl rfl rfl rfl rfl
  rw [hg_hh23] at hI
  rw [e9]
  clear e9 hg_hh23
  refine g_put (ci := 8) (kk := 10) (fs' := [aR (m0 + 1), aR (m0 + 2), aR (m0 + 3), aR (m0 + 4), aR (m0 + 5), aR (m0 + 6), aR (m0 + 7), aR (m0 + 8), aR (m0 + 9), aR (m0 + 10), aR (m0 + 11), aI 0, (some (.inr (.inr none))), aI 0, aI 0, (some (.inr (.inr none))), aI 0, aI 0, aI 0, (some (.inr (.inr none))), (some (.inr (.inr none))), (some (.inr (.inr none))), (some (.inr (.inr none))), (some (.inr (.inr none))), (some (.inr (.inr none))), (some (.inr (.inr none))), aI 0]) rfl rfl hI.ob hI.b0 (Nat.le_of_ble_eq_true rfl) rfl (by decide) rfl ?_
  generalize hg_hh24 : hput hh23 m0 (eO 8 [aR (m0 + 1), aR (m0 + 2), aR (m0 + 3), aR (m0 + 4), aR (m0 + 5), aR (m0 + 6), aR (m0 + 7), aR (m0 + 8), aR (m0 + 9), aR (m0 + 10), aR (m0 + 11), aI 0, (some (.inr (.inr none))), aI 0, aI 0, (some (.inr (.inr none))), aI 0, aI 0, aI 0, (some (.inr (.inr none))), (some (.inr (.inr none))), (some (.inr (.inr none))), (some (.inr (.inr none))), (some (.inr (.inr none))), (some (.inr (.inr none))), (some (.inr (.inr none))), aI 0]) = hh24
  replace hI := hI.put hg_hh24
  clear hg_hh24
  refine g_aload_n rfl rfl ?_
  refine g_sipush (n := 10240) rfl (by decide) ?_
  refine g_newa (kd := 1) rfl rfl (by decide) ?_
  generalize hg_hh25 : hnew hh24 (eA 1 (10240 : Int).toNat (fun _ => 0)) (10240 : Int).toNat = hh25
  have e9 : hh24.2.1 = m0 + 12 := hI.1
  replace hI := hI.new (by decide) (kd := 1) (n := (10240 : Int).toNat) (S' := 136749) (k' := 13) rfl rfl rfl rfl rfl
  rw [hg_hh25] at hI
  rw [e9]
  clear e9 hg_hh25
  refine g_put (ci := 8) (kk := 12) (fs' := [aR (m0 + 1), aR (m0 + 2), aR (m0 + 3), aR (m0 + 4), aR (m0 + 5), aR (m0 + 6), aR (m0 + 7), aR (m0 + 8), aR (m0 + 9), aR (m0 + 10), aR (m0 + 11), aI 0, aR (m0 + 12), aI 0, aI 0, (some (.inr (.inr none))), aI 0, aI 0, aI 0, (some (.inr (.inr none))), (some (.inr (.inr none))), (some (.inr (.inr none))), (some (.inr (.inr none))), (some (.inr (.inr none))), (some (.inr (.inr none))), (some (.inr (.inr none))), aI 0]) rfl rfl hI.ob hI.b0 (Nat.le_of_ble_eq_true rfl) rfl (by decide) rfl ?_
  generalize hg_hh26 : hput hh25 m0 (eO 8 [aR (m0 + 1), aR (m0 + 2), aR (m0 + 3), aR (m0 + 4), aR (m0 + 5), aR (m0 + 6), aR (m0 + 7), aR (m0 + 8), aR (m0 + 9), aR (m0 + 10), aR (m0 + 11), aI 0, aR (m0 + 12), aI 0, aI 0, (some (.inr (.inr none))), aI 0, aI 0, aI 0, (some (.inr (.inr none))), (some (.inr (.inr none))), (some (.inr (.inr none))), (some (.inr (.inr none))), (some (.inr (.inr none))), (some (.inr (.inr none))), (some (.inr (.inr none))), aI 0]) = hh26
  replace hI := hI.put hg_hh26
  clear hg_hh26
  refine g_aload_n rfl rfl ?_
  refine g_iconst (n := -1) rfl (by decide) ?_
  refine g_put (ci := 8) (kk := 14) (fs' := [aR (m0 + 1), aR (m0 + 2), aR (m0 + 3), aR (m0 + 4), aR (m0 + 5), aR (m0 + 6), aR (m0 + 7), aR (m0 + 8), aR (m0 + 9), aR (m0 + 10), aR (m0 + 11), aI 0, aR (m0 + 12), aI 0, aI (-1), (some (.inr (.inr none))), aI 0, aI 0, aI 0, (some (.inr (.inr none))), (some (.inr (.inr none))), (some (.inr (.inr none))), (some (.inr (.inr none))), (some (.inr (.inr none))), (some (.inr (.inr none))), (some (.inr (.inr none))), aI 0]) rfl rfl hI.ob hI.b0 (Nat.le_of_ble_eq_true rfl) rfl (by decide) rfl ?_
  generalize hg_hh27 : hput hh26 m0 (eO 8 [aR (m0 + 1), aR (m0 + 2), aR (m0 + 3), aR (m0 + 4), aR (m0 + 5), aR (m0 + 6), aR (m0 + 7), aR (m0 + 8), aR (m0 + 9), aR (m0 + 10), aR (m0 + 11), aI 0, aR (m0 + 12), aI 0, aI (-1), (some (.inr (.inr none))), aI 0, aI 0, aI 0, (some (.inr (.inr none))), (some (.inr (.inr none))), (some (.inr (.inr none))), (some (.inr (.inr none))), (some (.inr (.inr none))), (some (.inr (.inr none))), (some (.inr (.inr none))), aI 0]) = hh27
  replace hI := hI.put hg_hh27
  clear hg_hh27
  refine g_aload_n rfl rfl ?_
  refine g_sipush (n := 3200) rfl (by decide) ?_
  refine g_newa (kd := 1) rfl rfl (by decide) ?_
  generalize hg_hh28 : hnew hh27 (eA 1 (3200 : Int).toNat (fun _ => 0)) (3200 : Int).toNat = hh28
  have e9 : hh27.2.1 = m0 + 13 := hI.1
  replace hI := hI.new (by decide) (kd := 1) (n := (3200 : Int).toNat) (S' := 139949) (k' := 14) rfl rfl rfl rfl rfl
  rw [hg_hh28] at hI
  rw [e9]
  clear e9 hg_hh28
  refine g_put (ci := 8) (kk := 15) (fs' := [aR (m0 + 1), aR (m0 + 2), aR (m0 + 3), aR (m0 + 4), aR (m0 + 5), aR (m0 + 6), aR (m0 + 7), aR (m0 + 8), aR (m0 + 9), aR (m0 + 10), aR (m0 + 11), aI 0, aR (m0 + 12), aI 0, aI (-1), aR (m0 + 13), aI 0, aI 0, aI 0, (some (.inr (.inr none))), (some (.inr (.inr none))), (some (.inr (.inr none))), (some (.inr (.inr none))), (some (.inr (.inr none))), (some (.inr (.inr none))), (some (.inr (.inr none))), aI 0]) rfl rfl hI.ob hI.b0 (Nat.le_of_ble_eq_true rfl) rfl (by decide) rfl ?_
  generalize hg_hh29 : hput hh28 m0 (eO 8 [aR (m0 + 1), aR (m0 + 2), aR (m0 + 3), aR (m0 + 4), aR (m0 + 5), aR (m0 + 6), aR (m0 + 7), aR (m0 + 8), aR (m0 + 9), aR (m0 + 10), aR (m0 + 11), aI 0, aR (m0 + 12), aI 0, aI (-1), aR (m0 + 13), aI 0, aI 0, aI 0, (some (.inr (.inr none))), (some (.inr (.inr none))), (some (.inr (.inr none))), (some (.inr (.inr none))), (some (.inr (.inr none))), (some (.inr (.inr none))), (some (.inr (.inr none))), aI 0]) = hh29
  replace hI := hI.put hg_hh29
  clear hg_hh29
  refine g_aload_n rfl rfl ?_
  refine g_bipush (n := 30) rfl (by decide) ?_
  refine g_newa (kd := 0) rfl rfl (by decide) ?_
  generalize hg_hh30 : hnew hh29 (eA 0 (30 : Int).toNat (fun _ => 0)) (30 : Int).toNat = hh30
  have e9 : hh29.2.1 = m0 + 14 := hI.1
  replace hI := hI.new (by decide) (kd := 0) (n := (30 : Int).toNat) (S' := 139979) (k' := 15) rfl rfl rfl rfl rfl
  rw [hg_hh30] at hI
  rw [e9]
  clear e9 hg_hh30
  refine g_put (ci := 8) (kk := 19) (fs' := [aR (m0 + 1), aR (m0 + 2), aR (m0 + 3), aR (m0 + 4), aR (m0 + 5), aR (m0 + 6), aR (m0 + 7), aR (m0 + 8), aR (m0 + 9), aR (m0 + 10), aR (m0 + 11), aI 0, aR (m0 + 12), aI 0, aI (-1), aR (m0 + 13), aI 0, aI 0, aI 0, aR (m0 + 14), (some (.inr (.inr none))), (some (.inr (.inr none))), (some (.inr (.inr none))), (some (.inr (.inr none))), (some (.inr (.inr none))), (some (.inr (.inr none))), aI 0]) rfl rfl hI.ob hI.b0 (Nat.le_of_ble_eq_true rfl) rfl (by decide) rfl ?_
  generalize hg_hh31 : hput hh30 m0 (eO 8 [aR (m0 + 1), aR (m0 + 2), aR (m0 + 3), aR (m0 + 4), aR (m0 + 5), aR (m0 + 6), aR (m0 + 7), aR (m0 + 8), aR (m0 + 9), aR (m0 + 10), aR (m0 + 11), aI 0, aR (m0 + 12), aI 0, aI (-1), aR (m0 + 13), aI 0, aI 0, aI 0, aR (m0 + 14), (some (.inr (.inr none))), (some (.inr (.inr none))), (some (.inr (.inr none))), (some (.inr (.inr none))), (some (.inr (.inr none))), (some (.inr (.inr none))), aI 0]) = hh31
  replace hI := hI.put hg_hh31
  clear hg_hh31
  refine g_aload_n rfl rfl ?_
  refine g_bipush (n := 100) rfl (by decide) ?_
  refine g_newa (kd := 1) rfl rfl (by decide) ?_
  generalize hg_hh32 : hnew hh31 (eA 1 (100 : Int).toNat (fun _ => 0)) (100 : Int).toNat = hh32
  have e9 : hh31.2.1 = m0 + 15 := hI.1
  replace hI := hI.new (by decide) (kd := 1) (n := (100 : Int).toNat) (S' := 140079) (k' := 16) rfl rfl rfl rfl rfl
  rw [hg_hh32] at hI
  rw [e9]
  clear e9 hg_hh32
  refine g_put (ci := 8) (kk := 20) (fs' := [aR (m0 + 1), aR (m0 + 2), aR (m0 + 3), aR (m0 + 4), aR (m0 + 5), aR (m0 + 6), aR (m0 + 7), aR (m0 + 8), aR (m0 + 9), aR (m0 + 10), aR (m0 + 11), aI 0, aR (m0 + 12), aI 0, aI (-1), aR (m0 + 13), aI 0, aI 0, aI 0, aR (m0 + 14), aR (m0 + 15), (some (.inr (.inr none))), (some (.inr (.inr none))), (some (.inr (.inr none))), (some (.inr (.inr none))), (some (.inr (.inr none))), aI 0]) rfl rfl hI.ob hI.b0 (Nat.le_of_ble_eq_true rfl) rfl (by decide) rfl ?_
  generalize hg_hh33 : hput hh32 m0 (eO 8 [aR (m0 + 1), aR (m0 + 2), aR (m0 + 3), aR (m0 + 4), aR (m0 + 5), aR (m0 + 6), aR (m0 + 7), aR (m0 + 8), aR (m0 + 9), aR (m0 + 10), aR (m0 + 11), aI 0, aR (m0 + 12), aI 0, aI (-1), aR (m0 + 13), aI 0, aI 0, aI 0, aR (m0 + 14), aR (m0 + 15), (some (.inr (.inr none))), (some (.inr (.inr none))), (some (.inr (.inr none))), (some (.inr (.inr none))), (some (.inr (.inr none))), aI 0]) = hh33
  replace hI := hI.put hg_hh33
  clear hg_hh33
  refine g_aload_n rfl rfl ?_
  refine g_bipush (n := 30) rfl (by decide) ?_
  refine g_newa (kd := 0) rfl rfl (by decide) ?_
  generalize hg_hh34 : hnew hh33 (eA 0 (30 : Int).toNat (fun _ => 0)) (30 : Int).toNat = hh34
  have e9 : hh33.2.1 = m0 + 16 := hI.1
  replace hI := hI.new (by decide) (kd := 0) (n := (30 : Int).toNat) (S' := 140109) (k' := 17) rfl rfl rfl rfl rfl
  rw [hg_hh34] at hI
  rw [e9]
  clear e9 hg_hh34
  refine g_put (ci := 8) (kk := 21) (fs' := [aR (m0 + 1), aR (m0 + 2), aR (m0 + 3), aR (m0 + 4), aR (m0 + 5), aR (m0 + 6), aR (m0 + 7), aR (m0 + 8), aR (m0 + 9), aR (m0 + 10), aR (m0 + 11), aI 0, aR (m0 + 12), aI 0, aI (-1), aR (m0 + 13), aI 0, aI 0, aI 0, aR (m0 + 14), aR (m0 + 15), aR (m0 + 16), (some (.inr (.inr none))), (some (.inr (.inr none))), (some (.inr (.inr none))), (some (.inr (.inr none))), aI 0]) rfl rfl hI.ob hI.b0 (Nat.le_of_ble_eq_true rfl) rfl (by decide) rfl ?_
  generalize hg_hh35 : hput hh34 m0 (eO 8 [aR (m0 + 1), aR (m0 + 2), aR (m0 + 3), aR (m0 + 4), aR (m0 + 5), aR (m0 + 6), aR (m0 + 7), aR (m0 + 8), aR (m0 + 9), aR (m0 + 10), aR (m0 + 11), aI 0, aR (m0 + 12), aI 0, aI (-1), aR (m0 + 13), aI 0, aI 0, aI 0, aR (m0 + 14), aR (m0 + 15), aR (m0 + 16), (some (.inr (.inr none))), (some (.inr (.inr none))), (some (.inr (.inr none))), (some (.inr (.inr none))), aI 0]) = hh35
  replace hI := hI.put hg_hh35
  clear hg_hh35
  refine g_aload_n rfl rfl ?_
  refine g_bipush (n := 30) rfl (by decide) ?_
  refine g_newa (kd := 0) rfl rfl (by decide) ?_
  generalize hg_hh36 : hnew hh35 (eA 0 (30 : Int).toNat (fun _ => 0)) (30 : Int).toNat = hh36
  have e9 : hh35.2.1 = m0 + 17 := hI.1
  replace hI := hI.new (by decide) (kd := 0) (n := (30 : Int).toNat) (S' := 140139) (k' := 18) rfl rfl rfl rfl rfl
  rw [hg_hh36] at hI
  rw [e9]
  clear e9 hg_hh36
  refine g_put (ci := 8) (kk := 22) (fs' := [aR (m0 + 1), aR (m0 + 2), aR (m0 + 3), aR (m0 + 4), aR (m0 + 5), aR (m0 + 6), aR (m0 + 7), aR (m0 + 8), aR (m0 + 9), aR (m0 + 10), aR (m0 + 11), aI 0, aR (m0 + 12), aI 0, aI (-1), aR (m0 + 13), aI 0, aI 0, aI 0, aR (m0 + 14), aR (m0 + 15), aR (m0 + 16), aR (m0 + 17), (some (.inr (.inr none))), (some (.inr (.inr none))), (some (.inr (.inr none))), aI 0]) rfl rfl hI.ob hI.b0 (Nat.le_of_ble_eq_true rfl) rfl (by decide) rfl ?_
  generalize hg_hh37 : hput hh36 m0 (eO 8 [aR (m0 + 1), aR (m0 + 2), aR (m0 + 3), aR (m0 + 4), aR (m0 + 5), aR (m0 + 6), aR (m0 + 7), aR (m0 + 8), aR (m0 + 9), aR (m0 + 10), aR (m0 + 11), aI 0, aR (m0 + 12), aI 0, aI (-1), aR (m0 + 13), aI 0, aI 0, aI 0, aR (m0 + 14), aR (m0 + 15), aR (m0 + 16), aR (m0 + 17), (some (.inr (.inr none))), (some (.inr (.inr none))), (some (.inr (.inr none))), aI 0]) = hh37
  replace hI := hI.put hg_hh37
  clear hg_hh37
  refine g_aload_n rfl rfl ?_
  refine g_bipush (n := 31) rfl (by decide) ?_
  refine g_newa (kd := 0) rfl rfl (by decide) ?_
  generalize hg_hh38 : hnew hh37 (eA 0 (31 : Int).toNat (fun _ => 0)) (31 : Int).toNat = hh38
  have e9 : hh37.2.1 = m0 + 18 := hI.1
  replace hI := hI.new (by decide) (kd := 0) (n := (31 : Int).toNat) (S' := 140170) (k' := 19) rfl rfl rfl rfl rfl
  rw [hg_hh38] at hI
  rw [e9]
  clear e9 hg_hh38
  refine g_put (ci := 8) (kk := 23) (fs' := [aR (m0 + 1), aR (m0 + 2), aR (m0 + 3), aR (m0 + 4), aR (m0 + 5), aR (m0 + 6), aR (m0 + 7), aR (m0 + 8), aR (m0 + 9), aR (m0 + 10), aR (m0 + 11), aI 0, aR (m0 + 12), aI 0, aI (-1), aR (m0 + 13), aI 0, aI 0, aI 0, aR (m0 + 14), aR (m0 + 15), aR (m0 + 16), aR (m0 + 17), aR (m0 + 18), (some (.inr (.inr none))), (some (.inr (.inr none))), aI 0]) rfl rfl hI.ob hI.b0 (Nat.le_of_ble_eq_true rfl) rfl (by decide) rfl ?_
  generalize hg_hh39 : hput hh38 m0 (eO 8 [aR (m0 + 1), aR (m0 + 2), aR (m0 + 3), aR (m0 + 4), aR (m0 + 5), aR (m0 + 6), aR (m0 + 7), aR (m0 + 8), aR (m0 + 9), aR (m0 + 10), aR (m0 + 11), aI 0, aR (m0 + 12), aI 0, aI (-1), aR (m0 + 13), aI 0, aI 0, aI 0, aR (m0 + 14), aR (m0 + 15), aR (m0 + 16), aR (m0 + 17), aR (m0 + 18), (some (.inr (.inr none))), (some (.inr (.inr none))), aI 0]) = hh39
  replace hI := hI.put hg_hh39
  clear hg_hh39
  refine g_aload_n rfl rfl ?_
  refine g_bipush (n := 31) rfl (by decide) ?_
  refine g_newa (kd := 0) rfl rfl (by decide) ?_
  generalize hg_hh40 : hnew hh39 (eA 0 (31 : Int).toNat (fun _ => 0)) (31 : Int).toNat = hh40
  have e9 : hh39.2.1 = m0 + 19 := hI.1
  replace hI := hI.new (by decide) (kd := 0) (n := (31 : Int).toNat) (S' := 140201) (k' := 20) rfl rfl rfl rfl rfl
  rw [hg_hh40] at hI
  rw [e9]
  clear e9 hg_hh40
  refine g_put (ci := 8) (kk := 24) (fs' := [aR (m0 + 1), aR (m0 + 2), aR (m0 + 3), aR (m0 + 4), aR (m0 + 5), aR (m0 + 6), aR (m0 + 7), aR (m0 + 8), aR (m0 + 9), aR (m0 + 10), aR (m0 + 11), aI 0, aR (m0 + 12), aI 0, aI (-1), aR (m0 + 13), aI 0, aI 0, aI 0, aR (m0 + 14), aR (m0 + 15), aR (m0 + 16), aR (m0 + 17), aR (m0 + 18), aR (m0 + 19), (some (.inr (.inr none))), aI 0]) rfl rfl hI.ob hI.b0 (Nat.le_of_ble_eq_true rfl) rfl (by decide) rfl ?_
  generalize hg_hh41 : hput hh40 m0 (eO 8 [aR (m0 + 1), aR (m0 + 2), aR (m0 + 3), aR (m0 + 4), aR (m0 + 5), aR (m0 + 6), aR (m0 + 7), aR (m0 + 8), aR (m0 + 9), aR (m0 + 10), aR (m0 + 11), aI 0, aR (m0 + 12), aI 0, aI (-1), aR (m0 + 13), aI 0, aI 0, aI 0, aR (m0 + 14), aR (m0 + 15), aR (m0 + 16), aR (m0 + 17), aR (m0 + 18), aR (m0 + 19), (some (.inr (.inr none))), aI 0]) = hh41
  replace hI := hI.put hg_hh41
  clear hg_hh41
  refine g_aload_n rfl rfl ?_
  refine g_bipush (n := 30) rfl (by decide) ?_
  refine g_newa (kd := 0) rfl rfl (by decide) ?_
  generalize hg_hh42 : hnew hh41 (eA 0 (30 : Int).toNat (fun _ => 0)) (30 : Int).toNat = hh42
  have e9 : hh41.2.1 = m0 + 20 := hI.1
  replace hI := hI.new (by decide) (kd := 0) (n := (30 : Int).toNat) (S' := 140231) (k' := 21) rfl rfl rfl rfl rfl
  rw [hg_hh42] at hI
  rw [e9]
  clear e9 hg_hh42
  refine g_put (ci := 8) (kk := 25) (fs' := [aR (m0 + 1), aR (m0 + 2), aR (m0 + 3), aR (m0 + 4), aR (m0 + 5), aR (m0 + 6), aR (m0 + 7), aR (m0 + 8), aR (m0 + 9), aR (m0 + 10), aR (m0 + 11), aI 0, aR (m0 + 12), aI 0, aI (-1), aR (m0 + 13), aI 0, aI 0, aI 0, aR (m0 + 14), aR (m0 + 15), aR (m0 + 16), aR (m0 + 17), aR (m0 + 18), aR (m0 + 19), aR (m0 + 20), aI 0]) rfl rfl hI.ob hI.b0 (Nat.le_of_ble_eq_true rfl) rfl (by decide) rfl ?_
  generalize hg_hh43 : hput hh42 m0 (eO 8 [aR (m0 + 1), aR (m0 + 2), aR (m0 + 3), aR (m0 + 4), aR (m0 + 5), aR (m0 + 6), aR (m0 + 7), aR (m0 + 8), aR (m0 + 9), aR (m0 + 10), aR (m0 + 11), aI 0, aR (m0 + 12), aI 0, aI (-1), aR (m0 + 13), aI 0, aI 0, aI 0, aR (m0 + 14), aR (m0 + 15), aR (m0 + 16), aR (m0 + 17), aR (m0 + 18), aR (m0 + 19), aR (m0 + 20), aI 0]) = hh43
  replace hI := hI.put hg_hh43
  clear hg_hh43
  refine g_aload_n rfl rfl ?_
  refine g_iconst (n := 0) rfl (by decide) ?_
  obtain ⟨s, hs⟩ : ∃ s : MS, s = ((va_up (va_up (fun _ _ => 0) 9 (va_up (fun _ => 0) (0 : Int).toNat 1)) 9 (va_up (va_up (fun _ => 0) (0 : Int).toNat 1) (1 : Int).toNat 1), fun k => if k = 14 then -1 else 0) : MS) := ⟨_, rfl⟩
  have hW := hI.wm (s := s) (by rw [hs]; rfl) (by rw [hs]; rfl) (fun k j hk => by
      unfold va_up
      by_cases e : k = 9
      · subst e; exact absurd hk (by decide)
      · rw [if_neg e, if_neg e]; exact (show r8 0 from ⟨by decide, by decide⟩))
  refine g_Vn (z := yMd_clear) (e := 1) (A := [aI 0]) (rest := [])  rfl rfl rfl rfl rfl rfl (by omega) hW.ob hW.b0 (m_clear (u := 0) (by omega) hW) ?_
  intro hh44 hq
  obtain ⟨s2, hW2, hC⟩ := hq
  have hON := CL.one (by omega) hC
  obtain ⟨c1, c2, c3, c4, k1, k2, k3, k4, k5, k6, k7, k8⟩ := hC
  have hM0 : MOK s := by
    rw [hs]
    refine ⟨fun n _ => (show (0 : Int) ≤ 0 ∧ (0 : Int) ≤ 100 ∧ (0 : Int) ≤ 0 ∧ (0 : Int) ≤ 2000 by decide), fun t ht => ?_, Or.inl rfl, (show (0 : Int) ≤ 0 ∧ (0 : Int) ≤ 10240 by decide)⟩
    rcases (by omega : t = 0 ∨ t = 1) with e | e <;> subst e <;> decide
  have hM2 : MOK s2 := hM0.fr c1 (by rw [k3, k7]; decide) (fun v hv => by rw [c2]; have hcv := hM0.2.1 v hv; simp only [va_up]; split <;> omega) (fun k _ => by rw [c4])
  have hpg : pg s2 = [] := by
    unfold pg
    rw [c4, hs]
    rfl
  obtain ⟨i1, i2, i3, i4, i5, i6, i7⟩ := hI
  obtain ⟨w1, w2, w3⟩ := hW2
  exact r_v rfl rfl ⟨by rw [w1]; exact Prod.ext (by omega) (Prod.ext (by show _ = _ + 140231; omega) i2), fun a ha => by rw [w2 a (Or.inl (by omega)), i3 a (by omega)], s2, by rw [← hm]; exact WM.rb ⟨w1, w2, w3⟩, hM2, hON, hpg, by rw [c4, hs]; rfl, by rw [c4, hs]; rfl⟩
end Md32
