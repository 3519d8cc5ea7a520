/-! The reference's cells as a world. -/
/-- arrays by number (1 to 20), numbers by field -/
abbrev MS : Type := (Nat → Nat → Int) × (Nat → Int)
def mty (k : Nat) : Nat := if k = 10 ∨ k = 11 ∨ k = 12 ∨ k = 13 ∨ k = 15 then 1 else 0
def mln (k : Nat) : Nat := if k < 9 then 60 else if k = 9 then 2 else if k = 10 then 6000 else if k = 11 then 120000 else if k = 12 then 10240 else if k = 13 then 3200 else if k = 15 then 100 else if k = 18 then 31 else if k = 19 then 31 else 30
def mcel (m0 : Nat) (I : Nat → Int) : AE := eO 8 [aR (m0 + 1), aR (m0 + 2), aR (m0 + 3), aR (m0 + 4), aR (m0 + 5), aR (m0 + 6), aR (m0 + 7), aR (m0 + 8), aR (m0 + 9), aR (m0 + 10), aR (m0 + 11), aI (I 11), aR (m0 + 12), aI (I 13), aI (I 14), aR (m0 + 13), aI (I 16), aI (I 17), aI (I 18), aR (m0 + 14), aR (m0 + 15), aR (m0 + 16), aR (m0 + 17), aR (m0 + 18), aR (m0 + 19), aR (m0 + 20), aI (I 26)]
def WM (B : AH) (m0 : Nat) (h : AH) (s : MS) : Prop := h.2 = B.2 ∧ (∀ a, (a < m0 ∨ m0 + 20 < a) → h.1 a = B.1 a) ∧ h.1 m0 = some (mcel m0 s.2) ∧ (∀ k, 1 ≤ k → k ≤ 20 → h.1 (m0 + k) = some (eA (mty k) (mln k) (s.1 k))) ∧ B.2.2.2.1 ≤ m0 ∧ (∀ k j, mty k = 1 → r8 (s.1 k j))
def uA (s : MS) (k i : Nat) (v : Int) : MS := (va_up s.1 k (va_up (s.1 k) i v), s.2)
def uI (s : MS) (k : Nat) (v : Int) : MS := (s.1, va_up s.2 k v)
def uF (s : MS) (k : Nat) (f : Nat → Int) : MS := (va_up s.1 k f, s.2)
section Wm
variable {B h : AH} {m0 : Nat} {s : MS}
theorem WM.ob (hW : WM B m0 h s) : h.1 m0 = some (mcel m0 s.2) := hW.2.2.1
theorem WM.b0 (hW : WM B m0 h s) : h.2.2.2.1 ≤ m0 := by
  rw [hW.1]
  exact hW.2.2.2.2.1
theorem WM.bk (hW : WM B m0 h s) {k : Nat} : h.2.2.2.1 ≤ m0 + k := Nat.le_trans hW.b0 (Nat.le_add_right _ _)
theorem WM.by8 (hW : WM B m0 h s) {k : Nat} (hk : mty k = 1) (j : Nat) : r8 (s.1 k j) := hW.2.2.2.2.2 k j hk
theorem WM.a1 (hW : WM B m0 h s) : h.1 (m0 + 1) = some (eA 0 60 (s.1 1)) := hW.2.2.2.1 1 (by omega) (by omega)
theorem WM.a2 (hW : WM B m0 h s) : h.1 (m0 + 2) = some (eA 0 60 (s.1 2)) := hW.2.2.2.1 2 (by omega) (by omega)
theorem WM.a3 (hW : WM B m0 h s) : h.1 (m0 + 3) = some (eA 0 60 (s.1 3)) := hW.2.2.2.1 3 (by omega) (by omega)
theorem WM.a4 (hW : WM B m0 h s) : h.1 (m0 + 4) = some (eA 0 60 (s.1 4)) := hW.2.2.2.1 4 (by omega) (by omega)
theorem WM.a5 (hW : WM B m0 h s) : h.1 (m0 + 5) = some (eA 0 60 (s.1 5)) := hW.2.2.2.1 5 (by omega) (by omega)
theorem WM.a6 (hW : WM B m0 h s) : h.1 (m0 + 6) = some (eA 0 60 (s.1 6)) := hW.2.2.2.1 6 (by omega) (by omega)
theorem WM.a7 (hW : WM B m0 h s) : h.1 (m0 + 7) = some (eA 0 60 (s.1 7)) := hW.2.2.2.1 7 (by omega) (by omega)
theorem WM.a8 (hW : WM B m0 h s) : h.1 (m0 + 8) = some (eA 0 60 (s.1 8)) := hW.2.2.2.1 8 (by omega) (by omega)
theorem WM.a9 (hW : WM B m0 h s) : h.1 (m0 + 9) = some (eA 0 2 (s.1 9)) := hW.2.2.2.1 9 (by omega) (by omega)
theorem WM.a10 (hW : WM B m0 h s) : h.1 (m0 + 10) = some (eA 1 6000 (s.1 10)) := hW.2.2.2.1 10 (by omega) (by omega)
theorem WM.a11 (hW : WM B m0 h s) : h.1 (m0 + 11) = some (eA 1 120000 (s.1 11)) := hW.2.2.2.1 11 (by omega) (by omega)
theorem WM.a12 (hW : WM B m0 h s) : h.1 (m0 + 12) = some (eA 1 10240 (s.1 12)) := hW.2.2.2.1 12 (by omega) (by omega)
theorem WM.a13 (hW : WM B m0 h s) : h.1 (m0 + 13) = some (eA 1 3200 (s.1 13)) := hW.2.2.2.1 13 (by omega) (by omega)
theorem WM.a14 (hW : WM B m0 h s) : h.1 (m0 + 14) = some (eA 0 30 (s.1 14)) := hW.2.2.2.1 14 (by omega) (by omega)
theorem WM.a15 (hW : WM B m0 h s) : h.1 (m0 + 15) = some (eA 1 100 (s.1 15)) := hW.2.2.2.1 15 (by omega) (by omega)
theorem WM.a16 (hW : WM B m0 h s) : h.1 (m0 + 16) = some (eA 0 30 (s.1 16)) := hW.2.2.2.1 16 (by omega) (by omega)
theorem WM.a17 (hW : WM B m0 h s) : h.1 (m0 + 17) = some (eA 0 30 (s.1 17)) := hW.2.2.2.1 17 (by omega) (by omega)
theorem WM.a18 (hW : WM B m0 h s) : h.1 (m0 + 18) = some (eA 0 31 (s.1 18)) := hW.2.2.2.1 18 (by omega) (by omega)
theorem WM.a19 (hW : WM B m0 h s) : h.1 (m0 + 19) = some (eA 0 31 (s.1 19)) := hW.2.2.2.1 19 (by omega) (by omega)
theorem WM.a20 (hW : WM B m0 h s) : h.1 (m0 + 20) = some (eA 0 30 (s.1 20)) := hW.2.2.2.1 20 (by omega) (by omega)
theorem WM.setA (hW : WM B m0 h s) {k i : Nat} {v : Int} (h1 : 1 ≤ k) (h2 : k ≤ 20) (hv : mty k = 1 → r8 v) : WM B m0 (hput h (m0 + k) (eA (mty k) (mln k) (va_up (s.1 k) i v))) (uA s k i v) := by
  obtain ⟨w1, w2, w3, w4, w5, w6⟩ := hW
  refine ⟨w1, fun a ha => ?_, ?_, fun j j1 j2 => ?_, w5, fun j i' hj => ?_⟩
  · rw [hput_ne (by omega)]
    exact w2 a ha
  · rw [hput_ne (by omega)]
    exact w3
  · by_cases e : j = k
    · subst e
      rw [hput_eq]
      simp [uA, va_up]
    · rw [hput_ne (by omega), w4 j j1 j2]
      simp [uA, va_up, e]
  · show r8 (va_up s.1 k (va_up (s.1 k) i v) j i')
    unfold va_up
    split
    · rename_i e
      subst e
      dsimp only
      split
      · exact hv hj
      · exact w6 j i' hj
    · exact w6 j i' hj
theorem WM.setI (hW : WM B m0 h s) {k : Nat} {v : Int} {e : AE} (he : e = mcel m0 (va_up s.2 k v)) : WM B m0 (hput h m0 e) (uI s k v) := by
  subst he
  obtain ⟨w1, w2, w3, w4, w5, w6⟩ := hW
  refine ⟨w1, fun a ha => ?_, hput_eq, fun j j1 j2 => ?_, w5, w6⟩
  · rw [hput_ne (by omega)]
    exact w2 a ha
  · rw [hput_ne (by omega)]
    exact w4 j j1 j2
end Wm
/-- what the reference has at hand, its path, names and bodies -/
def pg (s : MS) : List Int := oF (s.2 13).toNat (s.1 12)
def wy (s : MS) : List Int := oF (s.2 16).toNat (s.1 13)
def nmM (s : MS) (n : Nat) : List Int := oF (s.1 3 n).toNat (fun j => s.1 10 (100 * n + j))
def bdM (s : MS) (n : Nat) : List Int := oF (s.1 7 n).toNat (fun j => s.1 11 (2000 * n + j))
def mst (s : MS) : CS := (fun r => if r < 120 then (if r % 2 = 0 then nmM s (r / 2) else bdM s (r / 2)) else if r = 121 then pg s else wy s, fun n k => if k = 0 then s.1 1 n else if k = 1 then s.1 2 n else if k = 2 then s.1 8 n else if k = 3 then s.1 4 n else if k = 4 then s.1 5 n else s.1 6 n, fun t i => 30 * t + i, fun t => (s.1 9 t).toNat, fun _ => s.1 20, fun k => if k = 0 then s.2 11 / 30 else if k = 1 then s.2 14 else 0)
/-- ranges of the reference's numbers -/
def MOK (s : MS) : Prop := (∀ n, n < 60 → 0 ≤ s.1 3 n ∧ s.1 3 n ≤ 100 ∧ 0 ≤ s.1 7 n ∧ s.1 7 n ≤ 2000) ∧ (∀ t, t < 2 → 1 ≤ s.1 9 t ∧ s.1 9 t ≤ 30) ∧ (s.2 11 = 0 ∨ s.2 11 = 30) ∧ 0 ≤ s.2 13 ∧ s.2 13 ≤ 10240
theorem mst_nm (s : MS) {t i : Nat} (ht : t < 2) (hi : i < 30) : ((mst s).1 (2 * (mst s).2.2.1 t i)) = nmM s (30 * t + i) := by
  show (if 2 * (30 * t + i) < 120 then (if 2 * (30 * t + i) % 2 = 0 then nmM s (2 * (30 * t + i) / 2) else bdM s (2 * (30 * t + i) / 2)) else _) = _
  rw [if_pos (by omega), if_pos (by omega), show 2 * (30 * t + i) / 2 = 30 * t + i by omega]
theorem mst_bd (s : MS) {t i : Nat} (ht : t < 2) (hi : i < 30) : ((mst s).1 (2 * (mst s).2.2.1 t i + 1)) = bdM s (30 * t + i) := by
  show (if 2 * (30 * t + i) + 1 < 120 then (if (2 * (30 * t + i) + 1) % 2 = 0 then nmM s ((2 * (30 * t + i) + 1) / 2) else bdM s ((2 * (30 * t + i) + 1) / 2)) else _) = _
  rw [if_pos (by omega), if_neg (by omega), show (2 * (30 * t + i) + 1) / 2 = 30 * t + i by omega]
theorem mst_pg (s : MS) : (mst s).1 121 = pg s := rfl
theorem mst_wy (s : MS) : (mst s).1 122 = wy s := rfl
section Md
variable {B h : AH} {m0 d t : Nat} {s : MS}
theorem pg_len (s : MS) : (pg s).length = (s.2 13).toNat := oF_len _ _
theorem pg_get (s : MS) {j : Nat} (h : (j : Int) < s.2 13) : (pg s).getD j 0 = s.1 12 j := oF_get (by omega)
theorem pg_rat (s : MS) {i : Int} (h0 : 0 ≤ i) (h : i < s.2 13) : rat (pg s) i = s.1 12 i.toNat % 256 := by
  rw [rat_in h0 (by rw [pg_len]; omega), pg_get s (by omega)]
theorem wy_len (s : MS) : (wy s).length = (s.2 16).toNat := oF_len _ _
theorem wy_get (s : MS) {j : Nat} (h : (j : Int) < s.2 16) : (wy s).getD j 0 = s.1 13 j := oF_get (by omega)
theorem wy_rat (s : MS) {i : Int} (h0 : 0 ≤ i) (h : i < s.2 16) : rat (wy s) i = s.1 13 i.toNat % 256 := by
  rw [rat_in h0 (by rw [wy_len]; omega), wy_get s (by omega)]
theorem WM.p8 (hW : WM B m0 h s) (j : Nat) : -128 ≤ s.1 12 j ∧ s.1 12 j ≤ 127 := hW.by8 (k := 12) (by decide) j
theorem WM.w8 (hW : WM B m0 h s) (j : Nat) : -128 ≤ s.1 13 j ∧ s.1 13 j ≤ 127 := hW.by8 (k := 13) (by decide) j
theorem WM.n8 (hW : WM B m0 h s) (j : Nat) : -128 ≤ s.1 10 j ∧ s.1 10 j ≤ 127 := hW.by8 (k := 10) (by decide) j
theorem m_within (v a b : Int) : Cal d yMd_within [aI v, aI a, aI b] h (RV (some (aI (pz (a ≤ v ∧ v ≤ b)))) (fun h2 => h2 = h)) := by
  show Go _ _ 0 [aI v, aI a, aI b] [] _ _
  refine g_iload_n rfl rfl ?_
  refine g_iload_n rfl rfl ?_
  refine g_icmplt rfl rfl (fun c1 => ?_) (fun c1 => ?_)
  · skip
    refine g_iconst (n := 0) rfl (by decide) ?_
    exact r_z rfl rfl (by decide) (pz_f (fun q => by omega)).symm rfl
  · skip
    refine g_iload_n rfl rfl ?_
    refine g_iload_n rfl rfl ?_
    refine g_icmpgt rfl rfl (fun c2 => ?_) (fun c2 => ?_)
    · skip
      refine g_iconst (n := 0) rfl (by decide) ?_
      exact r_z rfl rfl (by decide) (pz_f (fun q => by omega)).symm rfl
    · skip
      refine g_iconst (n := 1) rfl (by decide) ?_
      refine g_goto rfl rfl ?_
      exact r_z rfl rfl (by decide) (pz_t ⟨by omega, by omega⟩).symm rfl
theorem m_isLetter (c : Int) : Cal d yMd_isLetter [aI c] h (RV (some (aI (pz (33 ≤ c ∧ c ≤ 126 ∧ c ≠ 47)))) (fun h2 => h2 = h)) := by
  show Go _ _ 0 [aI c] [] _ _
  refine g_iload_n rfl rfl ?_
  refine g_bipush (n := 33) rfl (by decide) ?_
  refine g_icmplt rfl rfl (fun c1 => ?_) (fun c1 => ?_)
  · skip
    refine g_iconst (n := 0) rfl (by decide) ?_
    exact r_z rfl rfl (by decide) (pz_f (fun q => by omega)).symm rfl
  · skip
    refine g_iload_n rfl rfl ?_
    refine g_bipush (n := 126) rfl (by decide) ?_
    refine g_icmpgt rfl rfl (fun c2 => ?_) (fun c2 => ?_)
    · skip
      refine g_iconst (n := 0) rfl (by decide) ?_
      exact r_z rfl rfl (by decide) (pz_f (fun q => by omega)).symm rfl
    · skip
      refine g_iload_n rfl rfl ?_
      refine g_bipush (n := 47) rfl (by decide) ?_
      refine g_icmpeq rfl rfl (fun c3 => ?_) (fun c3 => ?_)
      · skip
        refine g_iconst (n := 0) rfl (by decide) ?_
        exact r_z rfl rfl (by decide) (pz_f (fun q => by omega)).symm rfl
      · skip
        refine g_iconst (n := 1) rfl (by decide) ?_
        refine g_goto rfl rfl ?_
        exact r_z rfl rfl (by decide) (pz_t ⟨by omega, by omega, by omega⟩).symm rfl
theorem m_thrown (hW : WM B m0 h s) : Cal d yMd_thrown [aR m0] h (RV (some (aI (s.2 26))) (fun h2 => h2 = h)) := by
  show Go _ _ 0 [aR m0] [] _ _
  refine g_aload_n rfl rfl ?_
  refine g_get (ci := 8) (kk := 26) rfl rfl hW.ob hW.b0 rfl ?_
  exact r_i rfl rfl rfl rfl
theorem m_fails (hW : WM B m0 h s) (p : Prop) (k : Int) : Cal d yMd_fails [aR m0, aI (pz p), aI k] h (RV (some (aI (pz p))) (fun h2 => WM B m0 h2 (uI s 26 (pk p k 0)))) := by
  show Go _ _ 0 [aR m0, aI (pz p), aI k] [] _ _
  refine g_aload_n rfl rfl ?_
  refine g_iload_n rfl rfl ?_
  refine g_ifeq rfl rfl (fun c1 => ?_) (fun c1 => ?_)
  · skip
    rw [pk_f (pz_eq c1)]
    refine g_iconst (n := 0) rfl (by decide) ?_
    refine g_put (ci := 8) (kk := 26) (fs' := [aR (m0 + 1), aR (m0 + 2), aR (m0 + 3), aR (m0 + 4), aR (m0 + 5), aR (m0 + 6), aR (m0 + 7), aR (m0 + 8), aR (m0 + 9), aR (m0 + 10), aR (m0 + 11), aI (s.2 11), aR (m0 + 12), aI (s.2 13), aI (s.2 14), aR (m0 + 13), aI (s.2 16), aI (s.2 17), aI (s.2 18), aR (m0 + 14), aR (m0 + 15), aR (m0 + 16), aR (m0 + 17), aR (m0 + 18), aR (m0 + 19), aR (m0 + 20), aI 0]) rfl rfl hW.ob hW.b0 (Nat.le_of_ble_eq_true rfl) rfl (by decide) rfl ?_
    generalize hg_hh2 : hput h m0 (eO 8 [aR (m0 + 1), aR (m0 + 2), aR (m0 + 3), aR (m0 + 4), aR (m0 + 5), aR (m0 + 6), aR (m0 + 7), aR (m0 + 8), aR (m0 + 9), aR (m0 + 10), aR (m0 + 11), aI (s.2 11), aR (m0 + 12), aI (s.2 13), aI (s.2 14), aR (m0 + 13), aI (s.2 16), aI (s.2 17), aI (s.2 18), aR (m0 + 14), aR (m0 + 15), aR (m0 + 16), aR (m0 + 17), aR (m0 + 18), aR (m0 + 19), aR (m0 + 20), aI 0]) = hh2
    have hW : WM B m0 hh2 (uI s 26 (0)) := by
      rw [← hg_hh2]
      exact hW.setI rfl
    refine g_iload_n rfl rfl ?_
    exact r_z rfl rfl (pz01 _) rfl hW
  · skip
    rw [pk_t (pz_ne c1)]
    refine g_iload_n rfl rfl ?_
    refine g_goto rfl rfl ?_
    refine g_put (ci := 8) (kk := 26) (fs' := [aR (m0 + 1), aR (m0 + 2), aR (m0 + 3), aR (m0 + 4), aR (m0 + 5), aR (m0 + 6), aR (m0 + 7), aR (m0 + 8), aR (m0 + 9), aR (m0 + 10), aR (m0 + 11), aI (s.2 11), aR (m0 + 12), aI (s.2 13), aI (s.2 14), aR (m0 + 13), aI (s.2 16), aI (s.2 17), aI (s.2 18), aR (m0 + 14), aR (m0 + 15), aR (m0 + 16), aR (m0 + 17), aR (m0 + 18), aR (m0 + 19), aR (m0 + 20), aI k]) rfl rfl hW.ob hW.b0 (Nat.le_of_ble_eq_true rfl) rfl (by decide) rfl ?_
    generalize hg_hh3 : hput h m0 (eO 8 [aR (m0 + 1), aR (m0 + 2), aR (m0 + 3), aR (m0 + 4), aR (m0 + 5), aR (m0 + 6), aR (m0 + 7), aR (m0 + 8), aR (m0 + 9), aR (m0 + 10), aR (m0 + 11), aI (s.2 11), aR (m0 + 12), aI (s.2 13), aI (s.2 14), aR (m0 + 13), aI (s.2 16), aI (s.2 17), aI (s.2 18), aR (m0 + 14), aR (m0 + 15), aR (m0 + 16), aR (m0 + 17), aR (m0 + 18), aR (m0 + 19), aR (m0 + 20), aI k]) = hh3
    have hW : WM B m0 hh3 (uI s 26 (k)) := by
      rw [← hg_hh3]
      exact hW.setI rfl
    refine g_iload_n rfl rfl ?_
    exact r_z rfl rfl (pz01 _) rfl hW
theorem MOK.tt (h : MOK s) : 0 ≤ s.2 11 ∧ s.2 11 ≤ 30 ∧ 0 ≤ s.2 11 / 30 ∧ s.2 11 / 30 ≤ 1 := by
  have := h.2.2.1
  omega
theorem m_count (hM : MOK s) (hW : WM B m0 h s) : Cal d yMd_count [aR m0] h (RV (some (aI (s.1 9 (s.2 11 / 30).toNat))) (fun h2 => h2 = h)) := by
  have ht := hM.tt
  show Go _ _ 0 [aR m0] [] _ _
  refine g_aload_n rfl rfl ?_
  refine g_get (ci := 8) (kk := 8) rfl rfl hW.ob hW.b0 rfl ?_
  refine g_aload_n rfl rfl ?_
  refine g_get (ci := 8) (kk := 11) rfl rfl hW.ob hW.b0 rfl ?_
  refine g_bipush (n := 30) rfl (by decide) ?_
  refine g_idiv (v := (s.2 11) / 30) rfl (by decide) (a_div30 (by omega) (by omega)) ?_
  refine g_iald rfl hW.a9 (by omega) ?_
  exact r_i rfl rfl rfl rfl
theorem m_isNode (hd1 : 1 ≤ d) (hM : MOK s) (hW : WM B m0 h s) (n : Int) : Cal d yMd_isNode [aR m0, aI n] h (RV (some (aI (pz (0 ≤ n ∧ n < s.1 9 (s.2 11 / 30).toNat)))) (fun h2 => h2 = h)) := by
  show Go _ _ 0 [aR m0, aI n] [] _ _
  refine g_iload_n rfl rfl ?_
  refine g_iflt rfl rfl (fun c1 => ?_) (fun c1 => ?_)
  · skip
    refine g_iconst (n := 0) rfl (by decide) ?_
    exact r_z rfl rfl (by decide) (pz_f (fun q => by omega)).symm rfl
  · skip
    refine g_iload_n rfl rfl ?_
    refine g_aload_n rfl rfl ?_
    refine g_V (z := yMd_count) (e := 1) (A := []) (rest := [aI n]) (v := aI (s.1 9 (s.2 11 / 30).toNat)) (P := fun h2 => h2 = h) rfl rfl rfl rfl rfl rfl (by omega) hW.ob hW.b0 (m_count hM hW) ?_
    intro hh9 he9
    rw [he9]
    clear he9 hh9
    refine g_icmpge rfl rfl (fun c2 => ?_) (fun c2 => ?_)
    · skip
      refine g_iconst (n := 0) rfl (by decide) ?_
      exact r_z rfl rfl (by decide) (pz_f (fun q => by omega)).symm rfl
    · skip
      refine g_iconst (n := 1) rfl (by decide) ?_
      refine g_goto rfl rfl ?_
      exact r_z rfl rfl (by decide) (pz_t ⟨by omega, by omega⟩).symm rfl
theorem mz_end (hW : WM B m0 h s) (f t i : Int) (V : Int) (hV : V = 0) : Go d yMd_isZero 5 [aR m0, aI f, aI t, aI 0, aI i] [] h (RV (some (aI V)) (fun h2 => h2 = h)) := by
  subst hV
  refine g_iload rfl rfl ?_
  refine g_iload_n rfl rfl ?_
  refine g_icmpge rfl rfl (fun c1 => ?_) (fun c1 => ?_)
  · skip
    refine g_iload_n rfl rfl ?_
    exact r_z rfl rfl (by decide) rfl rfl
  · skip
    refine g_iload_n rfl rfl ?_
    refine g_ifeq rfl rfl (fun c => ?_) (fun c => absurd c (by decide))
    refine g_iload_n rfl rfl ?_
    exact r_z rfl rfl (by decide) rfl rfl
theorem mz_loop (hW : WM B m0 h s) (f t : Int) (hf : 0 ≤ f) (ht : t ≤ s.2 13) (ht2 : t ≤ 10240) : ∀ (k : Nat) (i : Int), f ≤ i → (t - i).toNat ≤ k → (∀ j : Int, f ≤ j → j < i → rat (pg s) j = 0) → Go d yMd_isZero 5 [aR m0, aI f, aI t, aI 1, aI i] [] h (RV (some (aI (pz (zrs (pg s) f t)))) (fun h2 => h2 = h)) := by
  intro k
  induction k with
  | zero =>
    intro i h1 h2 h3
    refine g_iload rfl rfl ?_
    refine g_iload_n rfl rfl ?_
    refine g_icmpge rfl rfl (fun c1 => ?_) (fun c => absurd c (by omega))
    refine g_iload_n rfl rfl ?_
    exact r_z rfl rfl (by decide) (pz_t (fun j a b => h3 j a (by omega))).symm rfl
  | succ k ih =>
    intro i h1 h2 h3
    by_cases hit : i < t
    · have h8 := hW.p8 i.toNat
      have hr := pg_rat s (i := i) (by omega) (by omega)
      refine g_iload rfl rfl ?_
      refine g_iload_n rfl rfl ?_
      refine g_icmpge rfl rfl (fun c => absurd c (by omega)) (fun c1 => ?_)
      refine g_iload_n rfl rfl ?_
      refine g_ifeq rfl rfl (fun c => absurd c (by decide)) (fun c => ?_)
      refine g_aload_n rfl rfl ?_
      refine g_get (ci := 8) (kk := 12) rfl rfl hW.ob hW.b0 rfl ?_
      refine g_iload rfl rfl ?_
      refine g_bald rfl hW.a12 (by omega) ?_
      refine g_ifne rfl rfl (fun c3 => ?_) (fun c3 => ?_)
      · skip
        have cz := c3
        refine g_iconst (n := 0) rfl (by decide) ?_
        refine g_istore_n (L' := [aR m0, aI f, aI t, aI 0, aI i]) rfl rfl ?_
        refine g_iinc (L' := [aR m0, aI f, aI t, aI 0, aI (i + 1)]) rfl rfl (by omega) rfl ?_
        refine g_goto rfl rfl ?_
        exact mz_end hW f t _ _ (pz_f (fun q => by have := q i h1 hit; omega))
      · skip
        have cz := c3
        refine g_iconst (n := 1) rfl (by decide) ?_
        refine g_goto rfl rfl ?_
        refine g_istore_n (L' := [aR m0, aI f, aI t, aI 1, aI i]) rfl rfl ?_
        refine g_iinc (L' := [aR m0, aI f, aI t, aI 1, aI (i + 1)]) rfl rfl (by omega) rfl ?_
        refine g_goto rfl rfl ?_
        exact ih (i + 1) (by omega) (by omega) (fun j a b => by
          by_cases e : j = i
          · rw [e, hr, cz]; rfl
          · exact h3 j a (by omega))
    · skip
      refine g_iload rfl rfl ?_
      refine g_iload_n rfl rfl ?_
      refine g_icmpge rfl rfl (fun c1 => ?_) (fun c => absurd c (by omega))
      refine g_iload_n rfl rfl ?_
      exact r_z rfl rfl (by decide) (pz_t (fun j a b => h3 j a (by omega))).symm rfl
theorem m_isZero (hM : MOK s) (hW : WM B m0 h s) (f t : Int) (hf : 0 ≤ f) (ht : t ≤ s.2 13) : Cal d yMd_isZero [aR m0, aI f, aI t] h (RV (some (aI (pz (zrs (pg s) f t)))) (fun h2 => h2 = h)) := by
  have := hM.2.2.2.2
  show Go _ _ 0 [aR m0, aI f, aI t, none, none] [] _ _
  refine g_iconst (n := 1) rfl (by decide) ?_
  refine g_istore_n (L' := [aR m0, aI f, aI t, aI 1, none]) rfl rfl ?_
  refine g_iload_n rfl rfl ?_
  refine g_istore (L' := [aR m0, aI f, aI t, aI 1, aI f]) rfl rfl ?_
  exact mz_loop hW f t hf ht (by omega) (t - f).toNat f (Int.le_refl _) (by omega) (fun j a b => by omega)
theorem mm_loop (hM : MOK s) (hW : WM B m0 h s) (b : Int) (h0 : 0 ≤ b) (h1 : b * 512 + 512 ≤ s.2 13) : ∀ (k i : Nat), i + k = 512 → Go d yMd_sum 4 [aR m0, aI (b * 512), aI (sums (pg s) b i), aI (i : Int)] [] h (RV (some (aI (sums (pg s) b 512))) (fun h2 => h2 = h)) := by
  have hm := hM.2.2.2.2
  intro k
  induction k with
  | zero =>
    intro i hi
    obtain rfl : i = 512 := by omega
    refine g_iload_n rfl rfl ?_
    refine g_sipush (n := 512) rfl (by decide) ?_
    refine g_icmpge rfl rfl (fun c1 => ?_) (fun c => absurd c (by omega))
    refine g_iload_n rfl rfl ?_
    exact r_i rfl rfl rfl rfl
  | succ k ih =>
    intro i hi
    have hsr := sums_r (pg s) b i
    have h8 := hW.p8 (b * 512 + i).toNat
    have hr := pg_rat s (i := b * 512 + i) (by omega) (by omega)
    refine g_iload_n rfl rfl ?_
    refine g_sipush (n := 512) rfl (by decide) ?_
    refine g_icmpge rfl rfl (fun c => absurd c (by omega)) (fun c1 => ?_)
    refine g_iload_n rfl rfl ?_
    refine g_iload_n rfl rfl ?_
    refine g_sipush (n := 147) rfl (by decide) ?_
    refine g_icmple rfl rfl (fun c2 => ?_) (fun c2 => ?_)
    · skip
      refine g_aload_n rfl rfl ?_
      refine g_get (ci := 8) (kk := 12) rfl rfl hW.ob hW.b0 rfl ?_
      refine g_iload_n rfl rfl ?_
      refine g_iload_n rfl rfl ?_
      refine g_iadd rfl (by omega) ?_
      refine g_bald rfl hW.a12 (by omega) ?_
      refine g_sipush (n := 255) rfl (by decide) ?_
      refine g_iand (v := ((s.1 12) ((b * 512) + ((i : Int))).toNat) % 256) rfl (a_and255 _) ?_
      refine g_iadd rfl (by omega) ?_
      refine g_istore_n (L' := [aR m0, aI (b * 512), aI ((sums (pg s) b i) + (((s.1 12) ((b * 512) + ((i : Int))).toNat) % 256)), aI ((i : Int))]) rfl rfl ?_
      refine g_iinc (L' := [aR m0, aI (b * 512), aI ((sums (pg s) b i) + (((s.1 12) ((b * 512) + ((i : Int))).toNat) % 256)), aI ((i : Int) + 1)]) rfl rfl (by omega) rfl ?_
      refine g_goto rfl rfl ?_
      have h9 := ih (i + 1) (by omega)
      rw [show sums (pg s) b (i + 1) = (sums (pg s) b i) + (((s.1 12) ((b * 512) + ((i : Int))).toNat) % 256) from by show sums (pg s) b i + (if 148 ≤ i ∧ i < 156 then 32 else rat (pg s) (b * 512 + i)) = _; rw [if_neg (fun q => by omega)]; rw [hr]] at h9
      exact h9
    · skip
      refine g_iload_n rfl rfl ?_
      refine g_sipush (n := 156) rfl (by decide) ?_
      refine g_icmpge rfl rfl (fun c3 => ?_) (fun c3 => ?_)
      · skip
        refine g_aload_n rfl rfl ?_
        refine g_get (ci := 8) (kk := 12) rfl rfl hW.ob hW.b0 rfl ?_
        refine g_iload_n rfl rfl ?_
        refine g_iload_n rfl rfl ?_
        refine g_iadd rfl (by omega) ?_
        refine g_bald rfl hW.a12 (by omega) ?_
        refine g_sipush (n := 255) rfl (by decide) ?_
        refine g_iand (v := ((s.1 12) ((b * 512) + ((i : Int))).toNat) % 256) rfl (a_and255 _) ?_
        refine g_iadd rfl (by omega) ?_
        refine g_istore_n (L' := [aR m0, aI (b * 512), aI ((sums (pg s) b i) + (((s.1 12) ((b * 512) + ((i : Int))).toNat) % 256)), aI ((i : Int))]) rfl rfl ?_
        refine g_iinc (L' := [aR m0, aI (b * 512), aI ((sums (pg s) b i) + (((s.1 12) ((b * 512) + ((i : Int))).toNat) % 256)), aI ((i : Int) + 1)]) rfl rfl (by omega) rfl ?_
        refine g_goto rfl rfl ?_
        have h9 := ih (i + 1) (by omega)
        rw [show sums (pg s) b (i + 1) = (sums (pg s) b i) + (((s.1 12) ((b * 512) + ((i : Int))).toNat) % 256) from by show sums (pg s) b i + (if 148 ≤ i ∧ i < 156 then 32 else rat (pg s) (b * 512 + i)) = _; rw [if_neg (fun q => by omega)]; rw [hr]] at h9
        exact h9
      · skip
        refine g_bipush (n := 32) rfl (by decide) ?_
        refine g_goto rfl rfl ?_
        refine g_iadd rfl (by omega) ?_
        refine g_istore_n (L' := [aR m0, aI (b * 512), aI ((sums (pg s) b i) + 32), aI ((i : Int))]) rfl rfl ?_
        refine g_iinc (L' := [aR m0, aI (b * 512), aI ((sums (pg s) b i) + 32), aI ((i : Int) + 1)]) rfl rfl (by omega) rfl ?_
        refine g_goto rfl rfl ?_
        have h9 := ih (i + 1) (by omega)
        rw [show sums (pg s) b (i + 1) = (sums (pg s) b i) + 32 from by show sums (pg s) b i + (if 148 ≤ i ∧ i < 156 then 32 else rat (pg s) (b * 512 + i)) = _; rw [if_pos ⟨by omega, by omega⟩]] at h9
        exact h9
theorem m_sum (hM : MOK s) (hW : WM B m0 h s) (b : Int) (h0 : 0 ≤ b) (h1 : b * 512 + 512 ≤ s.2 13) : Cal d yMd_sum [aR m0, aI (b * 512)] h (RV (some (aI (sums (pg s) b 512))) (fun h2 => h2 = h)) := by
  show Go _ _ 0 [aR m0, aI (b * 512), none, none] [] _ _
  refine g_iconst (n := 0) rfl (by decide) ?_
  refine g_istore_n (L' := [aR m0, aI (b * 512), aI 0, none]) rfl rfl ?_
  refine g_iconst (n := 0) rfl (by decide) ?_
  refine g_istore_n (L' := [aR m0, aI (b * 512), aI 0, aI 0]) rfl rfl ?_
  exact mm_loop hM hW b h0 h1 512 0 (by omega)
theorem m_markOf (i : Int) (h0 : 0 ≤ i) (h1 : i < 8) : Cal d yMd_markOf [aI i] h (RV (some (aI (mkf i.toNat))) (fun h2 => h2 = h)) := by
  show Go _ _ 0 [aI i] [] _ _
  rcases (by omega : i = 0 ∨ i = 1 ∨ i = 2 ∨ i = 3 ∨ i = 4 ∨ i = 5 ∨ i = 6 ∨ i = 7) with q | q | q | q | q | q | q | q <;> subst q
  · skip
    refine g_iload_n rfl rfl ?_
    refine g_ifne rfl rfl (fun c => absurd c (by decide)) (fun c => ?_)
    refine g_bipush (n := 117) rfl (by decide) ?_
    refine g_goto rfl rfl ?_
    exact r_i rfl rfl rfl rfl
  · skip
    refine g_iload_n rfl rfl ?_
    refine g_ifne rfl rfl (fun c => ?_) (fun c => absurd c (by decide))
    refine g_iload_n rfl rfl ?_
    refine g_iconst (n := 1) rfl (by decide) ?_
    refine g_icmpne rfl rfl (fun c => absurd c (by decide)) (fun c => ?_)
    refine g_bipush (n := 115) rfl (by decide) ?_
    refine g_goto rfl rfl ?_
    exact r_i rfl rfl rfl rfl
  · skip
    refine g_iload_n rfl rfl ?_
    refine g_ifne rfl rfl (fun c => ?_) (fun c => absurd c (by decide))
    refine g_iload_n rfl rfl ?_
    refine g_iconst (n := 1) rfl (by decide) ?_
    refine g_icmpne rfl rfl (fun c => ?_) (fun c => absurd c (by decide))
    refine g_iload_n rfl rfl ?_
    refine g_iconst (n := 2) rfl (by decide) ?_
    refine g_icmpne rfl rfl (fun c => absurd c (by decide)) (fun c => ?_)
    refine g_bipush (n := 116) rfl (by decide) ?_
    refine g_goto rfl rfl ?_
    exact r_i rfl rfl rfl rfl
  · skip
    refine g_iload_n rfl rfl ?_
    refine g_ifne rfl rfl (fun c => ?_) (fun c => absurd c (by decide))
    refine g_iload_n rfl rfl ?_
    refine g_iconst (n := 1) rfl (by decide) ?_
    refine g_icmpne rfl rfl (fun c => ?_) (fun c => absurd c (by decide))
    refine g_iload_n rfl rfl ?_
    refine g_iconst (n := 2) rfl (by decide) ?_
    refine g_icmpne rfl rfl (fun c => ?_) (fun c => absurd c (by decide))
    refine g_iload_n rfl rfl ?_
    refine g_iconst (n := 3) rfl (by decide) ?_
    refine g_icmpne rfl rfl (fun c => absurd c (by decide)) (fun c => ?_)
    refine g_bipush (n := 97) rfl (by decide) ?_
    refine g_goto rfl rfl ?_
    exact r_i rfl rfl rfl rfl
  · skip
    refine g_iload_n rfl rfl ?_
    refine g_ifne rfl rfl (fun c => ?_) (fun c => absurd c (by decide))
    refine g_iload_n rfl rfl ?_
    refine g_iconst (n := 1) rfl (by decide) ?_
    refine g_icmpne rfl rfl (fun c => ?_) (fun c => absurd c (by decide))
    refine g_iload_n rfl rfl ?_
    refine g_iconst (n := 2) rfl (by decide) ?_
    refine g_icmpne rfl rfl (fun c => ?_) (fun c => absurd c (by decide))
    refine g_iload_n rfl rfl ?_
    refine g_iconst (n := 3) rfl (by decide) ?_
    refine g_icmpne rfl rfl (fun c => ?_) (fun c => absurd c (by decide))
    refine g_iload_n rfl rfl ?_
    refine g_iconst (n := 4) rfl (by decide) ?_
    refine g_icmpne rfl rfl (fun c => absurd c (by decide)) (fun c => ?_)
    refine g_bipush (n := 114) rfl (by decide) ?_
    refine g_goto rfl rfl ?_
    exact r_i rfl rfl rfl rfl
  · skip
    refine g_iload_n rfl rfl ?_
    refine g_ifne rfl rfl (fun c => ?_) (fun c => absurd c (by decide))
    refine g_iload_n rfl rfl ?_
    refine g_iconst (n := 1) rfl (by decide) ?_
    refine g_icmpne rfl rfl (fun c => ?_) (fun c => absurd c (by decide))
    refine g_iload_n rfl rfl ?_
    refine g_iconst (n := 2) rfl (by decide) ?_
    refine g_icmpne rfl rfl (fun c => ?_) (fun c => absurd c (by decide))
    refine g_iload_n rfl rfl ?_
    refine g_iconst (n := 3) rfl (by decide) ?_
    refine g_icmpne rfl rfl (fun c => ?_) (fun c => absurd c (by decide))
    refine g_iload_n rfl rfl ?_
    refine g_iconst (n := 4) rfl (by decide) ?_
    refine g_icmpne rfl rfl (fun c => ?_) (fun c => absurd c (by decide))
    refine g_iload_n rfl rfl ?_
    refine g_iconst (n := 5) rfl (by decide) ?_
    refine g_icmpne rfl rfl (fun c => absurd c (by decide)) (fun c => ?_)
    refine g_iconst (n := 0) rfl (by decide) ?_
    refine g_goto rfl rfl ?_
    exact r_i rfl rfl rfl rfl
  · skip
    refine g_iload_n rfl rfl ?_
    refine g_ifne rfl rfl (fun c => ?_) (fun c => absurd c (by decide))
    refine g_iload_n rfl rfl ?_
    refine g_iconst (n := 1) rfl (by decide) ?_
    refine g_icmpne rfl rfl (fun c => ?_) (fun c => absurd c (by decide))
    refine g_iload_n rfl rfl ?_
    refine g_iconst (n := 2) rfl (by decide) ?_
    refine g_icmpne rfl rfl (fun c => ?_) (fun c => absurd c (by decide))
    refine g_iload_n rfl rfl ?_
    refine g_iconst (n := 3) rfl (by decide) ?_
    refine g_icmpne rfl rfl (fun c => ?_) (fun c => absurd c (by decide))
    refine g_iload_n rfl rfl ?_
    refine g_iconst (n := 4) rfl (by decide) ?_
    refine g_icmpne rfl rfl (fun c => ?_) (fun c => absurd c (by decide))
    refine g_iload_n rfl rfl ?_
    refine g_iconst (n := 5) rfl (by decide) ?_
    refine g_icmpne rfl rfl (fun c => ?_) (fun c => absurd c (by decide))
    refine g_bipush (n := 48) rfl (by decide) ?_
    exact r_i rfl rfl rfl rfl
  · skip
    refine g_iload_n rfl rfl ?_
    refine g_ifne rfl rfl (fun c => ?_) (fun c => absurd c (by decide))
    refine g_iload_n rfl rfl ?_
    refine g_iconst (n := 1) rfl (by decide) ?_
    refine g_icmpne rfl rfl (fun c => ?_) (fun c => absurd c (by decide))
    refine g_iload_n rfl rfl ?_
    refine g_iconst (n := 2) rfl (by decide) ?_
    refine g_icmpne rfl rfl (fun c => ?_) (fun c => absurd c (by decide))
    refine g_iload_n rfl rfl ?_
    refine g_iconst (n := 3) rfl (by decide) ?_
    refine g_icmpne rfl rfl (fun c => ?_) (fun c => absurd c (by decide))
    refine g_iload_n rfl rfl ?_
    refine g_iconst (n := 4) rfl (by decide) ?_
    refine g_icmpne rfl rfl (fun c => ?_) (fun c => absurd c (by decide))
    refine g_iload_n rfl rfl ?_
    refine g_iconst (n := 5) rfl (by decide) ?_
    refine g_icmpne rfl rfl (fun c => ?_) (fun c => absurd c (by decide))
    refine g_bipush (n := 48) rfl (by decide) ?_
    exact r_i rfl rfl rfl rfl
theorem m_blocksOf (hM : MOK s) (hW : WM B m0 h s) (k : Nat) (hk : k < 60) : Cal d yMd_blocksOf [aR m0, aI (k : Int)] h (RV (some (aI (if s.1 1 k = 1 then (s.1 7 k + 511) / 512 else 0))) (fun h2 => h2 = h)) := by
  have hm := hM.1 k hk
  show Go _ _ 0 [aR m0, aI (k : Int)] [] _ _
  refine g_aload_n rfl rfl ?_
  refine g_get (ci := 8) (kk := 0) rfl rfl hW.ob hW.b0 rfl ?_
  refine g_iload_n rfl rfl ?_
  refine g_iald rfl hW.a1 (by omega) ?_
  rw [show (s.1 1) ((k : Int)).toNat = s.1 1 k from rfl]
  refine g_iconst (n := 1) rfl (by decide) ?_
  refine g_icmpne rfl rfl (fun c1 => ?_) (fun c1 => ?_)
  · skip
    refine g_iconst (n := 0) rfl (by decide) ?_
    exact r_i rfl rfl (by rw [if_neg (by assumption)]) rfl
  · skip
    refine g_aload_n rfl rfl ?_
    refine g_get (ci := 8) (kk := 6) rfl rfl hW.ob hW.b0 rfl ?_
    refine g_iload_n rfl rfl ?_
    refine g_iald rfl hW.a7 (by omega) ?_
    rw [show (s.1 7) ((k : Int)).toNat = s.1 7 k from rfl]
    refine g_sipush (n := 512) rfl (by decide) ?_
    refine g_iadd rfl (by omega) ?_
    refine g_iconst (n := 1) rfl (by decide) ?_
    refine g_isub rfl (by omega) ?_
    refine g_sipush (n := 512) rfl (by decide) ?_
    refine g_idiv (v := (((s.1 7 k) + 512) - 1) / 512) rfl (by decide) (a_div512 (by omega) (by omega)) ?_
    refine g_goto rfl rfl ?_
    exact r_i rfl rfl (by rw [if_pos (by assumption)]; congr 1; omega) rfl
end Md
