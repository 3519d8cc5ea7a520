/-! The reference: what it copies, writes in octal digits, tells. -/
section Md6
variable {B h : AH} {m0 d t : Nat} {s : MS} {P W C : Nat → Int} {n : Int}
def cyW (P W0 : Nat → Int) (a0 f k : Int) : Nat → Int := fun j => if a0 ≤ (j : Int) ∧ (j : Int) < a0 + k then P (f + ((j : Int) - a0)).toNat else W0 j
theorem mcy_loop (W0 : Nat → Int) (a0 f m : Int) (ha : 0 ≤ a0) (hf : 0 ≤ f) (hf2 : f + m ≤ 10240) (ham : a0 + m ≤ 3200) : ∀ (q : Nat) (k : Int) (h : AH), 0 ≤ k → k ≤ m → (m - k).toNat ≤ q → WM B m0 h (xF s P (cyW P W0 a0 f k) (a0 + k) C) → Go d yMd_copyIn 2 [aR m0, aI f, aI m, aI k] [] h (RV none (fun h2 => WM B m0 h2 (xF s P (cyW P W0 a0 f m) (a0 + m) C))) := by
  intro q
  induction q with
  | zero =>
    intro k h h0 h1 h2 hW
    obtain rfl : k = m := by omega
    refine g_iload_n rfl rfl ?_
    refine g_iload_n rfl rfl ?_
    refine g_icmpge rfl rfl (fun c1 => ?_) (fun c => absurd c (by omega))
    exact r_v rfl rfl hW
  | succ q ih =>
    intro k h h0 h1 h2 hW
    by_cases hk : k < m
    · have hp8 := xF_p8 hW (f + k).toNat
      have hsp : va_up (cyW P W0 a0 f k) (a0 + k).toNat (P (f + k).toNat) = cyW P W0 a0 f (k + 1) := by
        funext j
        unfold va_up cyW
        by_cases e : j = (a0 + k).toNat
        · rw [if_pos e, if_pos (by omega), show f + ((j : Int) - a0) = f + k by omega]
        · rw [if_neg e]
          by_cases e2 : a0 ≤ (j : Int) ∧ (j : Int) < a0 + k
          · rw [if_pos e2, if_pos (by omega)]
          · rw [if_neg e2, if_neg (by omega)]
      refine g_iload_n rfl rfl ?_
      refine g_iload_n rfl rfl ?_
      refine g_icmpge rfl rfl (fun c => absurd c (by omega)) (fun c1 => ?_)
      refine g_aload_n rfl rfl ?_
      refine g_get (ci := 8) (kk := 15) rfl rfl (xF_ob hW) hW.b0 rfl ?_
      refine g_aload_n rfl rfl ?_
      refine g_get (ci := 8) (kk := 16) rfl rfl (xF_ob hW) hW.b0 rfl ?_
      refine g_aload_n rfl rfl ?_
      refine g_get (ci := 8) (kk := 12) rfl rfl (xF_ob hW) hW.b0 rfl ?_
      refine g_iload_n rfl rfl ?_
      refine g_iload_n rfl rfl ?_
      refine g_iadd rfl (by omega) ?_
      refine g_bald rfl (xF_a12 hW) (by omega) ?_
      refine g_bast rfl (xF_a13 hW) hW.bk (by omega) ?_
      generalize hg_hh2 : hput h (m0 + 13) (eA 1 3200 (va_up ((cyW P W0 a0 f k)) (a0 + k).toNat (a8 (P (f + k).toNat)))) = hh2
      have hW := xF_13 hW (a0 + k).toNat (a8_r (P (f + k).toNat))
      rw [hg_hh2, a8_of hp8, hsp] at hW
      refine g_aload_n rfl rfl ?_
      refine g_dup rfl rfl ?_
      refine g_get (ci := 8) (kk := 16) rfl rfl (xF_ob hW) hW.b0 rfl ?_
      refine g_iconst (n := 1) rfl (by decide) ?_
      refine g_iadd rfl (by omega) ?_
      refine g_put (ci := 8) (kk := 16) (fs' := [aR (m0 + 1), aR (m0 + 2), aR (m0 + 3), aR (m0 + 4), aR (m0 + 5), aR (m0 + 6), aR (m0 + 7), aR (m0 + 8), aR (m0 + 9), aR (m0 + 10), aR (m0 + 11), aI (s.2 11), aR (m0 + 12), aI (s.2 13), aI (s.2 14), aR (m0 + 13), aI ((a0 + k) + 1), aI (s.2 17), aI (s.2 18), aR (m0 + 14), aR (m0 + 15), aR (m0 + 16), aR (m0 + 17), aR (m0 + 18), aR (m0 + 19), aR (m0 + 20), aI (s.2 26)]) rfl rfl (xF_ob hW) hW.b0 (Nat.le_of_ble_eq_true rfl) rfl (by decide) rfl ?_
      generalize hg_hh3 : hput hh2 m0 (eO 8 [aR (m0 + 1), aR (m0 + 2), aR (m0 + 3), aR (m0 + 4), aR (m0 + 5), aR (m0 + 6), aR (m0 + 7), aR (m0 + 8), aR (m0 + 9), aR (m0 + 10), aR (m0 + 11), aI (s.2 11), aR (m0 + 12), aI (s.2 13), aI (s.2 14), aR (m0 + 13), aI ((a0 + k) + 1), aI (s.2 17), aI (s.2 18), aR (m0 + 14), aR (m0 + 15), aR (m0 + 16), aR (m0 + 17), aR (m0 + 18), aR (m0 + 19), aR (m0 + 20), aI (s.2 26)]) = hh3
      have hW := xF_n hW (a0 + k + 1)
      rw [show mcel m0 (va_up s.2 16 (a0 + k + 1)) = eO 8 [aR (m0 + 1), aR (m0 + 2), aR (m0 + 3), aR (m0 + 4), aR (m0 + 5), aR (m0 + 6), aR (m0 + 7), aR (m0 + 8), aR (m0 + 9), aR (m0 + 10), aR (m0 + 11), aI (s.2 11), aR (m0 + 12), aI (s.2 13), aI (s.2 14), aR (m0 + 13), aI ((a0 + k) + 1), aI (s.2 17), aI (s.2 18), aR (m0 + 14), aR (m0 + 15), aR (m0 + 16), aR (m0 + 17), aR (m0 + 18), aR (m0 + 19), aR (m0 + 20), aI (s.2 26)] from rfl, hg_hh3] at hW
      refine g_iinc (L' := [aR m0, aI f, aI m, aI (k + 1)]) rfl rfl (by omega) rfl ?_
      refine g_goto rfl rfl ?_
      exact ih (k + 1) _ (by omega) (by omega) (by omega) (by rw [show a0 + (k + 1) = a0 + k + 1 by omega]; exact hW)
    · obtain rfl : k = m := by omega
      refine g_iload_n rfl rfl ?_
      refine g_iload_n rfl rfl ?_
      refine g_icmpge rfl rfl (fun c1 => ?_) (fun c => absurd c (by omega))
      exact r_v rfl rfl hW
theorem m_copyIn (hW : WM B m0 h (xF s P W n C)) (f m : Int) (hn : 0 ≤ n) (hf : 0 ≤ f) (hm : 0 ≤ m) (hf2 : f + m ≤ 10240) (ham : n + m ≤ 3200) : Cal d yMd_copyIn [aR m0, aI f, aI m] h (RV none (fun h2 => WM B m0 h2 (xF s P (cyW P W n f m) (n + m) C))) := by
  have e0 : cyW P W n f 0 = W := by
    funext j
    unfold cyW
    rw [if_neg (by omega)]
  show Go _ _ 0 [aR m0, aI f, aI m, none] [] _ _
  refine g_iconst (n := 0) rfl (by decide) ?_
  refine g_istore_n (L' := [aR m0, aI f, aI m, aI 0]) rfl rfl ?_
  exact mcy_loop (B := B) (m0 := m0) (s := s) (P := P) (C := C) W n f m hn hf hf2 ham m.toNat 0 h (by omega) (by omega) (by omega) (by rw [e0, show n + 0 = n by omega]; exact hW)
def ocF (P : Nat → Int) (f : Int) (m : Nat) (v : Int) (c : Nat) : Nat → Int := fun j => if f + m - c ≤ (j : Int) ∧ (j : Int) < f + m then 48 + v / 8 ^ (f + m - 1 - j).toNat % 8 else P j
def octF (P : Nat → Int) (f : Int) (m : Nat) (v : Int) : Nat → Int := va_up (ocF P f m v m) (f + m).toNat 0
theorem mo2_loop (P0 : Nat → Int) (f v : Int) (m : Nat) (hm : m ≤ 11) (hf : 0 ≤ f) (hf2 : f + m < 10240) (hv : 0 ≤ v) (hv2 : v ≤ 2147483647) : ∀ (q c : Nat) (h : AH), c ≤ m → m - c ≤ q → WM B m0 h (xF s (ocF P0 f m v c) W n C) → Go d yMd_octal 8 [aR m0, aI f, aI (m : Int), aL v, none, aL (v / 8 ^ c), none, aI ((m : Int) - 1 - c)] [] h (RV none (fun h2 => WM B m0 h2 (xF s (octF P0 f m v) W n C))) := by
  have fin : ∀ (h : AH) (x y : AV), WM B m0 h (xF s (ocF P0 f m v m) W n C) → Go d yMd_octal 48 [aR m0, aI f, aI (m : Int), aL v, none, x, none, y] [] h (RV none (fun h2 => WM B m0 h2 (xF s (octF P0 f m v) W n C))) := by
    intro h x y hW
    refine g_aload_n rfl rfl ?_
    refine g_get (ci := 8) (kk := 12) rfl rfl (xF_ob hW) hW.b0 rfl ?_
    refine g_iload_n rfl rfl ?_
    refine g_iload_n rfl rfl ?_
    refine g_iadd rfl (by omega) ?_
    refine g_iconst (n := 0) rfl (by decide) ?_
    refine g_bast rfl (xF_a12 hW) hW.bk (by omega) ?_
    generalize hg_hh1 : hput h (m0 + 12) (eA 1 10240 (va_up ((ocF P0 f m v m)) (f + ((m : Int))).toNat (a8 0))) = hh1
    have hW := xF_12 hW (f + (m : Int)).toNat (a8_r 0)
    rw [hg_hh1, a8_id (by omega) (by omega)] at hW
    exact r_v rfl rfl hW
  intro q
  induction q with
  | zero =>
    intro c h h1 h2 hW
    obtain rfl : c = m := by omega
    refine g_iload rfl rfl ?_
    refine g_iflt rfl rfl (fun c1 => ?_) (fun c => absurd c (by omega))
    exact fin _ _ _ hW
  | succ q ih =>
    intro c h h1 h2 hW
    by_cases hc : c < m
    · have hd0 : 0 ≤ v / 8 ^ c := Int.ediv_nonneg hv (Int.le_of_lt (Int.pow_pos (by omega)))
      have hd1 : v / 8 ^ c ≤ v := Int.ediv_le_self _ hv
      have hsp : va_up (ocF P0 f m v c) (f + ((m : Int) - 1 - (c : Int))).toNat (48 + v / 8 ^ c % 8) = ocF P0 f m v (c + 1) := by
        funext j
        unfold va_up ocF
        by_cases e : j = (f + ((m : Int) - 1 - (c : Int))).toNat
        · rw [if_pos e, if_pos (by omega), show (f + (m : Int) - 1 - (j : Int)).toNat = c by omega]
        · rw [if_neg e]
          by_cases e2 : f + m - c ≤ (j : Int) ∧ (j : Int) < f + m
          · rw [if_pos e2, if_pos (by omega)]
          · rw [if_neg e2, if_neg (by omega)]
      generalize hV : v / 8 ^ c = V at *
      refine g_iload rfl rfl ?_
      refine g_iflt rfl rfl (fun c => absurd c (by omega)) (fun c1 => ?_)
      refine g_aload_n rfl rfl ?_
      refine g_get (ci := 8) (kk := 12) rfl rfl (xF_ob hW) hW.b0 rfl ?_
      refine g_iload_n rfl rfl ?_
      refine g_iload rfl rfl ?_
      refine g_iadd rfl (by omega) ?_
      refine g_ldc2 (v := 48) rfl rfl ?_
      refine g_lload rfl rfl ?_
      refine g_ldc2 (v := 8) rfl rfl ?_
      refine g_lrem (v := V % 8) rfl (by decide) (a_lrem8 (by omega) (by omega)) ?_
      refine g_ladd rfl (by omega) ?_
      refine g_l2i (v := 48 + V % 8) rfl (a32_id (by omega) (by omega)) ?_
      refine g_i2b rfl ?_
      refine g_bast rfl (xF_a12 hW) hW.bk (by omega) ?_
      generalize hg_hh2 : hput h (m0 + 12) (eA 1 10240 (va_up ((ocF P0 f m v c)) (f + (((m : Int) - 1 - (c : Int)))).toNat (a8 (a8 (48 + V % 8))))) = hh2
      have hW := xF_12 hW (f + ((m : Int) - 1 - (c : Int))).toNat (a8_r (a8 (48 + V % 8)))
      rw [hg_hh2, a8_id (x := a8 (48 + V % 8)) (by rw [a8_id (by omega) (by omega)]; omega) (by rw [a8_id (by omega) (by omega)]; omega), a8_id (by omega) (by omega), hsp] at hW
      refine g_lload rfl rfl ?_
      refine g_ldc2 (v := 8) rfl rfl ?_
      refine g_ldiv (v := V / 8) rfl (by decide) (a_ldiv8 (by omega) (by omega)) ?_
      refine g_lstore (L' := [aR m0, aI f, aI ((m : Int)), aL v, none, aL (V / 8), none, aI (((m : Int) - 1 - (c : Int)))]) rfl rfl ?_
      refine g_iinc (L' := [aR m0, aI f, aI ((m : Int)), aL v, none, aL (V / 8), none, aI (((m : Int) - 1 - (c : Int)) + (-1))]) rfl rfl (by omega) rfl ?_
      refine g_goto rfl rfl ?_
      have h9 := ih (c + 1) _ (by omega) (by omega) hW
      rw [← div8, hV, show (m : Int) - 1 - ((c + 1 : Nat) : Int) = (m : Int) - 1 - (c : Int) + -1 by omega] at h9
      exact h9
    · obtain rfl : c = m := by omega
      refine g_iload rfl rfl ?_
      refine g_iflt rfl rfl (fun c1 => ?_) (fun c => absurd c (by omega))
      exact fin _ _ _ hW
theorem m_octal (hW : WM B m0 h (xF s P W n C)) (f v : Int) (m : Nat) (hm : m ≤ 11) (hf : 0 ≤ f) (hf2 : f + m < 10240) (hv : 0 ≤ v) (hv2 : v ≤ 2147483647) : Cal d yMd_octal [aR m0, aI f, aI (m : Int), aL v] h (RV none (fun h2 => WM B m0 h2 (xF s (octF P f m v) W n C))) := by
  have e0 : ocF P f m v 0 = P := by
    funext j
    unfold ocF
    rw [if_neg (by omega)]
  show Go _ _ 0 [aR m0, aI f, aI (m : Int), aL v, none, none, none, none] [] _ _
  refine g_lload_n rfl rfl ?_
  refine g_lstore (L' := [aR m0, aI f, aI ((m : Int)), aL v, none, aL v, none, none]) rfl rfl ?_
  refine g_iload_n rfl rfl ?_
  refine g_iconst (n := 1) rfl (by decide) ?_
  refine g_isub rfl (by omega) ?_
  refine g_istore (L' := [aR m0, aI f, aI ((m : Int)), aL v, none, aL v, none, aI (((m : Int)) - 1)]) rfl rfl ?_
  have h9 := mo2_loop (d := d) (B := B) (m0 := m0) (s := s) (W := W) (n := n) (C := C) P f v m hm hf hf2 hv hv2 m 0 h (by omega) (by omega) (by rw [e0]; exact hW)
  rw [show v / 8 ^ 0 = v by simp, show (m : Int) - 1 - ((0 : Nat) : Int) = (m : Int) - 1 by omega] at h9
  exact h9
theorem octF_list {P : Nat → Int} {l : List Int} {f v : Int} {m : Nat} (hf : 0 ≤ f) (hl : f + m < l.length) (h : ∀ j, j < l.length → P j = l.getD j 0) : ∀ j, j < (poct l f m v).length → octF P f m v j = (poct l f m v).getD j 0 := by
  intro j hj
  rw [poct_len] at hj
  unfold octF ocF poct va_up
  rw [oF_get hj]
  by_cases e : j = (f + (m : Int)).toNat
  · rw [if_pos e, if_neg (by omega), if_pos (by omega)]
  · rw [if_neg e]
    dsimp only
    by_cases e2 : f ≤ (j : Int) ∧ (j : Int) < f + m
    · rw [if_pos (by omega), if_pos e2]
    · rw [if_neg (by omega), if_neg e2, if_neg (by omega), h j hj]
end Md6
