/-! The reference: what it spells, copies, writes in octal digits, tells. -/
/-- page, path, its length and chain as they are now -/
def xF (s : MS) (P W : Nat → Int) (n : Int) (C : Nat → Int) : MS := (fun k => if k = 12 then P else if k = 13 then W else if k = 14 then C else s.1 k, va_up s.2 16 n)
section Md5
variable {B h : AH} {m0 d t : Nat} {s : MS} {P W C : Nat → Int} {n : Int}
theorem xF_ob (hW : WM B m0 h (xF s P W n C)) : h.1 m0 = some (eO 8 [aR (m0 + 1), aR (m0 + 2), aR (m0 + 3), aR (m0 + 4), aR (m0 + 5), aR (m0 + 6), aR (m0 + 7), aR (m0 + 8), aR (m0 + 9), aR (m0 + 10), aR (m0 + 11), aI (s.2 11), aR (m0 + 12), aI (s.2 13), aI (s.2 14), aR (m0 + 13), aI n, aI (s.2 17), aI (s.2 18), aR (m0 + 14), aR (m0 + 15), aR (m0 + 16), aR (m0 + 17), aR (m0 + 18), aR (m0 + 19), aR (m0 + 20), aI (s.2 26)]) := hW.ob
theorem xF_a1 (hW : WM B m0 h (xF s P W n C)) : h.1 (m0 + 1) = some (eA 0 60 (s.1 1)) := hW.a1
theorem xF_a2 (hW : WM B m0 h (xF s P W n C)) : h.1 (m0 + 2) = some (eA 0 60 (s.1 2)) := hW.a2
theorem xF_a3 (hW : WM B m0 h (xF s P W n C)) : h.1 (m0 + 3) = some (eA 0 60 (s.1 3)) := hW.a3
theorem xF_a4 (hW : WM B m0 h (xF s P W n C)) : h.1 (m0 + 4) = some (eA 0 60 (s.1 4)) := hW.a4
theorem xF_a5 (hW : WM B m0 h (xF s P W n C)) : h.1 (m0 + 5) = some (eA 0 60 (s.1 5)) := hW.a5
theorem xF_a6 (hW : WM B m0 h (xF s P W n C)) : h.1 (m0 + 6) = some (eA 0 60 (s.1 6)) := hW.a6
theorem xF_a7 (hW : WM B m0 h (xF s P W n C)) : h.1 (m0 + 7) = some (eA 0 60 (s.1 7)) := hW.a7
theorem xF_a8 (hW : WM B m0 h (xF s P W n C)) : h.1 (m0 + 8) = some (eA 0 60 (s.1 8)) := hW.a8
theorem xF_a9 (hW : WM B m0 h (xF s P W n C)) : h.1 (m0 + 9) = some (eA 0 2 (s.1 9)) := hW.a9
theorem xF_a10 (hW : WM B m0 h (xF s P W n C)) : h.1 (m0 + 10) = some (eA 1 6000 (s.1 10)) := hW.a10
theorem xF_a11 (hW : WM B m0 h (xF s P W n C)) : h.1 (m0 + 11) = some (eA 1 120000 (s.1 11)) := hW.a11
theorem xF_a12 (hW : WM B m0 h (xF s P W n C)) : h.1 (m0 + 12) = some (eA 1 10240 P) := hW.a12
theorem xF_a13 (hW : WM B m0 h (xF s P W n C)) : h.1 (m0 + 13) = some (eA 1 3200 W) := hW.a13
theorem xF_a14 (hW : WM B m0 h (xF s P W n C)) : h.1 (m0 + 14) = some (eA 0 30 C) := hW.a14
theorem xF_a15 (hW : WM B m0 h (xF s P W n C)) : h.1 (m0 + 15) = some (eA 1 100 (s.1 15)) := hW.a15
theorem xF_a16 (hW : WM B m0 h (xF s P W n C)) : h.1 (m0 + 16) = some (eA 0 30 (s.1 16)) := hW.a16
theorem xF_a17 (hW : WM B m0 h (xF s P W n C)) : h.1 (m0 + 17) = some (eA 0 30 (s.1 17)) := hW.a17
theorem xF_a18 (hW : WM B m0 h (xF s P W n C)) : h.1 (m0 + 18) = some (eA 0 31 (s.1 18)) := hW.a18
theorem xF_a19 (hW : WM B m0 h (xF s P W n C)) : h.1 (m0 + 19) = some (eA 0 31 (s.1 19)) := hW.a19
theorem xF_a20 (hW : WM B m0 h (xF s P W n C)) : h.1 (m0 + 20) = some (eA 0 30 (s.1 20)) := hW.a20
theorem xF_self (s : MS) : xF s (s.1 12) (s.1 13) (s.2 16) (s.1 14) = s := by
  refine Prod.ext ?_ ?_
  · funext k
    show (if k = 12 then s.1 12 else if k = 13 then s.1 13 else if k = 14 then s.1 14 else s.1 k) = s.1 k
    by_cases h1 : k = 12
    · rw [if_pos h1, h1]
    rw [if_neg h1]
    by_cases h2 : k = 13
    · rw [if_pos h2, h2]
    rw [if_neg h2]
    by_cases h3 : k = 14
    · rw [if_pos h3, h3]
    rw [if_neg h3]
  · funext k
    show va_up s.2 16 (s.2 16) k = s.2 k
    unfold va_up
    split
    · rename_i e; rw [e]
    · rfl
theorem xF_A (k i : Nat) (v : Int) (P' W' C' : Nat → Int) (h1 : P' = if k = 12 then va_up P i v else P) (h2 : W' = if k = 13 then va_up W i v else W) (h3 : C' = if k = 14 then va_up C i v else C) (hk : k = 12 ∨ k = 13 ∨ k = 14) : uA (xF s P W n C) k i v = xF s P' W' n C' := by
  subst h1
  subst h2
  subst h3
  refine Prod.ext ?_ rfl
  funext j
  show va_up (fun k => if k = 12 then P else if k = 13 then W else if k = 14 then C else s.1 k) k (va_up (if k = 12 then P else if k = 13 then W else if k = 14 then C else s.1 k) i v) j = if j = 12 then (if k = 12 then va_up P i v else P) else if j = 13 then (if k = 13 then va_up W i v else W) else if j = 14 then (if k = 14 then va_up C i v else C) else s.1 j
  have hu : ∀ {β : Type} (f : Nat → β) (x : Nat) (y : β) (z : Nat), va_up f x y z = if z = x then y else f z := fun _ _ _ _ => rfl
  rw [hu]
  rcases hk with q | q | q <;> subst q <;> (by_cases e1 : j = 12 <;> by_cases e2 : j = 13 <;> by_cases e3 : j = 14 <;> simp [e1, e2, e3] <;> omega)
theorem xF_12 (hW : WM B m0 h (xF s P W n C)) (i : Nat) {v : Int} (hv : r8 v) : WM B m0 (hput h (m0 + 12) (eA 1 10240 (va_up P i v))) (xF s (va_up P i v) W n C) := by
  have k := hW.setA (k := 12) (i := i) (v := v) (by omega) (by omega) (fun _ => hv)
  rw [xF_A 12 i v (va_up P i v) W C rfl rfl rfl (by omega)] at k
  exact k
theorem xF_13 (hW : WM B m0 h (xF s P W n C)) (i : Nat) {v : Int} (hv : r8 v) : WM B m0 (hput h (m0 + 13) (eA 1 3200 (va_up W i v))) (xF s P (va_up W i v) n C) := by
  have k := hW.setA (k := 13) (i := i) (v := v) (by omega) (by omega) (fun _ => hv)
  rw [xF_A 13 i v P (va_up W i v) C rfl rfl rfl (by omega)] at k
  exact k
theorem xF_14 (hW : WM B m0 h (xF s P W n C)) (i : Nat) {v : Int} : WM B m0 (hput h (m0 + 14) (eA 0 30 (va_up C i v))) (xF s P W n (va_up C i v)) := by
  have k := hW.setA (k := 14) (i := i) (v := v) (by omega) (by omega) (fun q => absurd q (by decide))
  rw [xF_A 14 i v P W (va_up C i v) rfl rfl rfl (by omega)] at k
  exact k
theorem xF_n (hW : WM B m0 h (xF s P W n C)) (n' : Int) : WM B m0 (hput h m0 (mcel m0 (va_up s.2 16 n'))) (xF s P W n' C) := by
  have k := hW.setI (k := 16) (v := n') (e := mcel m0 (va_up s.2 16 n')) rfl
  have e : uI (xF s P W n C) 16 n' = xF s P W n' C := by
    refine Prod.ext rfl ?_
    funext j
    show va_up (va_up s.2 16 n) 16 n' j = va_up s.2 16 n' j
    unfold va_up
    by_cases q : j = 16 <;> simp [q]
  rw [e] at k
  exact k
theorem xF_8 (hW : WM B m0 h (xF s P W n C)) (j : Nat) : r8 (W j) := hW.by8 (k := 13) (by decide) j
theorem xF_p8 (hW : WM B m0 h (xF s P W n C)) (j : Nat) : r8 (P j) := hW.by8 (k := 12) (by decide) j
theorem xF_n8 (hW : WM B m0 h (xF s P W n C)) (j : Nat) : r8 (s.1 10 j) := hW.by8 (k := 10) (by decide) j
theorem xF_b8 (hW : WM B m0 h (xF s P W n C)) (j : Nat) : r8 (s.1 11 j) := hW.by8 (k := 11) (by decide) j
def spW (W0 : Nat → Int) (a0 w k : Int) : Nat → Int := fun j => if a0 ≤ (j : Int) ∧ (j : Int) < a0 + k then a8 (lb w ((j : Int) - a0).toNat) else W0 j
def ltw (w : Int) (k : Int) : Prop := ∀ j : Nat, (j : Int) < k → 33 ≤ lb w j ∧ lb w j ≤ 126 ∧ lb w j ≠ 47
theorem ms_loop (w : Int) (hw : r64 w) (W0 : Nat → Int) (a0 m : Int) (ha : 0 ≤ a0) (hm : m ≤ 8) (hm0 : 0 ≤ m) (ham : a0 + m ≤ 3200) : ∀ (q : Nat) (k : Nat) (h : AH) (v6 : AV), (k : Int) ≤ m → (m - k).toNat ≤ q → WM B m0 h (xF s P (spW W0 a0 w k) (a0 + k) C) → Go (d + 1) yMd_spell 6 [aR m0, aL w, none, aI m, aI (pz (ltw w k)), aI (k : Int), v6] [] h (RV (some (aI (pz (ltw w m)))) (fun h2 => WM B m0 h2 (xF s P (spW W0 a0 w m) (a0 + m) C))) := by
  intro q
  induction q with
  | zero =>
    intro k h v6 h1 h2 hW
    obtain rfl : (k : Int) = m := by omega
    refine g_iload rfl rfl ?_
    refine g_iload_n rfl rfl ?_
    refine g_icmpge rfl rfl (fun c1 => ?_) (fun c => absurd c (by omega))
    refine g_iload rfl rfl ?_
    exact r_z rfl rfl (pz01 _) rfl hW
  | succ q ih =>
    intro k h v6 h1 h2 hW
    by_cases hk : (k : Int) < m
    · have hl := lb_r w k
      have hls : ltw w ((k + 1 : Nat) : Int) ↔ (ltw w (k : Int) ∧ (33 ≤ lb w k ∧ lb w k ≤ 126 ∧ lb w k ≠ 47)) := by
        constructor
        · intro z
          exact ⟨fun j hj => z j (by omega), z k (by omega)⟩
        · intro z j hj
          by_cases e : j = k
          · rw [e]; exact z.2
          · exact z.1 j (by omega)
      have hsp : va_up (spW W0 a0 w (k : Int)) (a0 + (k : Int)).toNat (a8 (lb w k)) = spW W0 a0 w ((k + 1 : Nat) : Int) := by
        funext j
        unfold va_up spW
        by_cases e : j = (a0 + (k : Int)).toNat
        · rw [if_pos e, if_pos (by omega), show ((j : Int) - a0).toNat = k by omega]
        · rw [if_neg e]
          by_cases e2 : a0 ≤ (j : Int) ∧ (j : Int) < a0 + k
          · rw [if_pos e2, if_pos (by omega)]
          · rw [if_neg e2, if_neg (by omega)]
      refine g_iload rfl rfl ?_
      refine g_iload_n rfl rfl ?_
      refine g_icmpge rfl rfl (fun c => absurd c (by omega)) (fun c1 => ?_)
      refine g_lload_n rfl rfl ?_
      refine g_bipush (n := 8) rfl (by decide) ?_
      refine g_iload rfl rfl ?_
      refine g_imul rfl (by omega) ?_
      refine g_lshr (v := w / 2 ^ (8 * k)) rfl (a_lshr8 hw (i := k) (by omega)) ?_
      refine g_ldc2 (v := 255) rfl rfl ?_
      refine g_land (v := lb w k) rfl a_land255 ?_
      refine g_l2i (v := lb w k) rfl (a32_id (by omega) (by omega)) ?_
      refine g_istore (L' := [aR m0, aL w, none, aI m, aI (pz (ltw w (k : Int))), aI ((k : Int)), aI (lb w k)]) rfl rfl ?_
      refine g_iload rfl rfl ?_
      refine g_ifeq rfl rfl (fun c2 => ?_) (fun c2 => ?_)
      · skip
        have y1 := c2
        refine g_iconst (n := 0) rfl (by decide) ?_
        refine g_istore (L' := [aR m0, aL w, none, aI m, aI 0, aI ((k : Int)), aI (lb w k)]) rfl rfl ?_
        refine g_aload_n rfl rfl ?_
        refine g_get (ci := 8) (kk := 15) rfl rfl (xF_ob hW) hW.b0 rfl ?_
        refine g_aload_n rfl rfl ?_
        refine g_get (ci := 8) (kk := 16) rfl rfl (xF_ob hW) hW.b0 rfl ?_
        refine g_iload rfl rfl ?_
        refine g_i2b rfl ?_
        refine g_bast rfl (xF_a13 hW) hW.bk (by omega) ?_
        generalize hg_hh3 : hput h (m0 + 13) (eA 1 3200 (va_up ((spW W0 a0 w (k : Int))) (a0 + (k : Int)).toNat (a8 (a8 (lb w k))))) = hh3
        have hW := xF_13 hW (a0 + (k : Int)).toNat (a8_r (a8 (lb w k)))
        rw [hg_hh3, a8_of (a8_r (lb w k)), hsp] at hW
        refine g_aload_n rfl rfl ?_
        refine g_dup rfl rfl ?_
        refine g_get (ci := 8) (kk := 16) rfl rfl (xF_ob hW) hW.b0 rfl ?_
        refine g_iconst (n := 1) rfl (by decide) ?_
        refine g_iadd rfl (by omega) ?_
        refine g_put (ci := 8) (kk := 16) (fs' := [aR (m0 + 1), aR (m0 + 2), aR (m0 + 3), aR (m0 + 4), aR (m0 + 5), aR (m0 + 6), aR (m0 + 7), aR (m0 + 8), aR (m0 + 9), aR (m0 + 10), aR (m0 + 11), aI (s.2 11), aR (m0 + 12), aI (s.2 13), aI (s.2 14), aR (m0 + 13), aI ((a0 + (k : Int)) + 1), aI (s.2 17), aI (s.2 18), aR (m0 + 14), aR (m0 + 15), aR (m0 + 16), aR (m0 + 17), aR (m0 + 18), aR (m0 + 19), aR (m0 + 20), aI (s.2 26)]) rfl rfl (xF_ob hW) hW.b0 (Nat.le_of_ble_eq_true rfl) rfl (by decide) rfl ?_
        generalize hg_hh4 : hput hh3 m0 (eO 8 [aR (m0 + 1), aR (m0 + 2), aR (m0 + 3), aR (m0 + 4), aR (m0 + 5), aR (m0 + 6), aR (m0 + 7), aR (m0 + 8), aR (m0 + 9), aR (m0 + 10), aR (m0 + 11), aI (s.2 11), aR (m0 + 12), aI (s.2 13), aI (s.2 14), aR (m0 + 13), aI ((a0 + (k : Int)) + 1), aI (s.2 17), aI (s.2 18), aR (m0 + 14), aR (m0 + 15), aR (m0 + 16), aR (m0 + 17), aR (m0 + 18), aR (m0 + 19), aR (m0 + 20), aI (s.2 26)]) = hh4
        have hW := xF_n hW (a0 + (k : Int) + 1)
        rw [show mcel m0 (va_up s.2 16 (a0 + (k : Int) + 1)) = eO 8 [aR (m0 + 1), aR (m0 + 2), aR (m0 + 3), aR (m0 + 4), aR (m0 + 5), aR (m0 + 6), aR (m0 + 7), aR (m0 + 8), aR (m0 + 9), aR (m0 + 10), aR (m0 + 11), aI (s.2 11), aR (m0 + 12), aI (s.2 13), aI (s.2 14), aR (m0 + 13), aI ((a0 + (k : Int)) + 1), aI (s.2 17), aI (s.2 18), aR (m0 + 14), aR (m0 + 15), aR (m0 + 16), aR (m0 + 17), aR (m0 + 18), aR (m0 + 19), aR (m0 + 20), aI (s.2 26)] from rfl, hg_hh4] at hW
        rw [show a0 + (k : Int) + 1 = a0 + ((k + 1 : Nat) : Int) by omega] at hW
        refine g_iinc (L' := [aR m0, aL w, none, aI m, aI 0, aI ((k : Int) + 1), aI (lb w k)]) rfl rfl (by omega) rfl ?_
        refine g_goto rfl rfl ?_
        have h9 := ih (k + 1) _ (aI (lb w k)) (by omega) (by omega) hW
        rw [pz_f (fun z => by have z2 := hls.1 z; first | exact pz_eq y2 z2.2 | exact pz_eq y1 z2.1)] at h9
        exact h9
      · skip
        have y1 := c2
        refine g_iload rfl rfl ?_
        refine g_S (z := yMd_isLetter) (e := 1) (A := [aI (lb w k)]) (rest := []) (v := aI (pz (33 ≤ lb w k ∧ lb w k ≤ 126 ∧ lb w k ≠ 47))) (P := fun h2 => h2 = h) rfl rfl rfl rfl rfl rfl (by omega) (m_isLetter _) ?_
        intro hh9 he9
        rw [he9]
        clear he9 hh9
        refine g_ifeq rfl rfl (fun c5 => ?_) (fun c5 => ?_)
        · skip
          have y2 := c5
          refine g_iconst (n := 0) rfl (by decide) ?_
          refine g_istore (L' := [aR m0, aL w, none, aI m, aI 0, aI ((k : Int)), aI (lb w k)]) rfl rfl ?_
          refine g_aload_n rfl rfl ?_
          refine g_get (ci := 8) (kk := 15) rfl rfl (xF_ob hW) hW.b0 rfl ?_
          refine g_aload_n rfl rfl ?_
          refine g_get (ci := 8) (kk := 16) rfl rfl (xF_ob hW) hW.b0 rfl ?_
          refine g_iload rfl rfl ?_
          refine g_i2b rfl ?_
          refine g_bast rfl (xF_a13 hW) hW.bk (by omega) ?_
          generalize hg_hh6 : hput h (m0 + 13) (eA 1 3200 (va_up ((spW W0 a0 w (k : Int))) (a0 + (k : Int)).toNat (a8 (a8 (lb w k))))) = hh6
          have hW := xF_13 hW (a0 + (k : Int)).toNat (a8_r (a8 (lb w k)))
          rw [hg_hh6, a8_of (a8_r (lb w k)), hsp] at hW
          refine g_aload_n rfl rfl ?_
          refine g_dup rfl rfl ?_
          refine g_get (ci := 8) (kk := 16) rfl rfl (xF_ob hW) hW.b0 rfl ?_
          refine g_iconst (n := 1) rfl (by decide) ?_
          refine g_iadd rfl (by omega) ?_
          refine g_put (ci := 8) (kk := 16) (fs' := [aR (m0 + 1), aR (m0 + 2), aR (m0 + 3), aR (m0 + 4), aR (m0 + 5), aR (m0 + 6), aR (m0 + 7), aR (m0 + 8), aR (m0 + 9), aR (m0 + 10), aR (m0 + 11), aI (s.2 11), aR (m0 + 12), aI (s.2 13), aI (s.2 14), aR (m0 + 13), aI ((a0 + (k : Int)) + 1), aI (s.2 17), aI (s.2 18), aR (m0 + 14), aR (m0 + 15), aR (m0 + 16), aR (m0 + 17), aR (m0 + 18), aR (m0 + 19), aR (m0 + 20), aI (s.2 26)]) rfl rfl (xF_ob hW) hW.b0 (Nat.le_of_ble_eq_true rfl) rfl (by decide) rfl ?_
          generalize hg_hh7 : hput hh6 m0 (eO 8 [aR (m0 + 1), aR (m0 + 2), aR (m0 + 3), aR (m0 + 4), aR (m0 + 5), aR (m0 + 6), aR (m0 + 7), aR (m0 + 8), aR (m0 + 9), aR (m0 + 10), aR (m0 + 11), aI (s.2 11), aR (m0 + 12), aI (s.2 13), aI (s.2 14), aR (m0 + 13), aI ((a0 + (k : Int)) + 1), aI (s.2 17), aI (s.2 18), aR (m0 + 14), aR (m0 + 15), aR (m0 + 16), aR (m0 + 17), aR (m0 + 18), aR (m0 + 19), aR (m0 + 20), aI (s.2 26)]) = hh7
          have hW := xF_n hW (a0 + (k : Int) + 1)
          rw [show mcel m0 (va_up s.2 16 (a0 + (k : Int) + 1)) = eO 8 [aR (m0 + 1), aR (m0 + 2), aR (m0 + 3), aR (m0 + 4), aR (m0 + 5), aR (m0 + 6), aR (m0 + 7), aR (m0 + 8), aR (m0 + 9), aR (m0 + 10), aR (m0 + 11), aI (s.2 11), aR (m0 + 12), aI (s.2 13), aI (s.2 14), aR (m0 + 13), aI ((a0 + (k : Int)) + 1), aI (s.2 17), aI (s.2 18), aR (m0 + 14), aR (m0 + 15), aR (m0 + 16), aR (m0 + 17), aR (m0 + 18), aR (m0 + 19), aR (m0 + 20), aI (s.2 26)] from rfl, hg_hh7] at hW
          rw [show a0 + (k : Int) + 1 = a0 + ((k + 1 : Nat) : Int) by omega] at hW
          refine g_iinc (L' := [aR m0, aL w, none, aI m, aI 0, aI ((k : Int) + 1), aI (lb w k)]) rfl rfl (by omega) rfl ?_
          refine g_goto rfl rfl ?_
          have h9 := ih (k + 1) _ (aI (lb w k)) (by omega) (by omega) hW
          rw [pz_f (fun z => by have z2 := hls.1 z; first | exact pz_eq y2 z2.2 | exact pz_eq y1 z2.1)] at h9
          exact h9
        · skip
          have y2 := c5
          refine g_iconst (n := 1) rfl (by decide) ?_
          refine g_goto rfl rfl ?_
          refine g_istore (L' := [aR m0, aL w, none, aI m, aI 1, aI ((k : Int)), aI (lb w k)]) rfl rfl ?_
          refine g_aload_n rfl rfl ?_
          refine g_get (ci := 8) (kk := 15) rfl rfl (xF_ob hW) hW.b0 rfl ?_
          refine g_aload_n rfl rfl ?_
          refine g_get (ci := 8) (kk := 16) rfl rfl (xF_ob hW) hW.b0 rfl ?_
          refine g_iload rfl rfl ?_
          refine g_i2b rfl ?_
          refine g_bast rfl (xF_a13 hW) hW.bk (by omega) ?_
          generalize hg_hh8 : hput h (m0 + 13) (eA 1 3200 (va_up ((spW W0 a0 w (k : Int))) (a0 + (k : Int)).toNat (a8 (a8 (lb w k))))) = hh8
          have hW := xF_13 hW (a0 + (k : Int)).toNat (a8_r (a8 (lb w k)))
          rw [hg_hh8, a8_of (a8_r (lb w k)), hsp] at hW
          refine g_aload_n rfl rfl ?_
          refine g_dup rfl rfl ?_
          refine g_get (ci := 8) (kk := 16) rfl rfl (xF_ob hW) hW.b0 rfl ?_
          refine g_iconst (n := 1) rfl (by decide) ?_
          refine g_iadd rfl (by omega) ?_
          refine g_put (ci := 8) (kk := 16) (fs' := [aR (m0 + 1), aR (m0 + 2), aR (m0 + 3), aR (m0 + 4), aR (m0 + 5), aR (m0 + 6), aR (m0 + 7), aR (m0 + 8), aR (m0 + 9), aR (m0 + 10), aR (m0 + 11), aI (s.2 11), aR (m0 + 12), aI (s.2 13), aI (s.2 14), aR (m0 + 13), aI ((a0 + (k : Int)) + 1), aI (s.2 17), aI (s.2 18), aR (m0 + 14), aR (m0 + 15), aR (m0 + 16), aR (m0 + 17), aR (m0 + 18), aR (m0 + 19), aR (m0 + 20), aI (s.2 26)]) rfl rfl (xF_ob hW) hW.b0 (Nat.le_of_ble_eq_true rfl) rfl (by decide) rfl ?_
          generalize hg_hh9 : hput hh8 m0 (eO 8 [aR (m0 + 1), aR (m0 + 2), aR (m0 + 3), aR (m0 + 4), aR (m0 + 5), aR (m0 + 6), aR (m0 + 7), aR (m0 + 8), aR (m0 + 9), aR (m0 + 10), aR (m0 + 11), aI (s.2 11), aR (m0 + 12), aI (s.2 13), aI (s.2 14), aR (m0 + 13), aI ((a0 + (k : Int)) + 1), aI (s.2 17), aI (s.2 18), aR (m0 + 14), aR (m0 + 15), aR (m0 + 16), aR (m0 + 17), aR (m0 + 18), aR (m0 + 19), aR (m0 + 20), aI (s.2 26)]) = hh9
          have hW := xF_n hW (a0 + (k : Int) + 1)
          rw [show mcel m0 (va_up s.2 16 (a0 + (k : Int) + 1)) = eO 8 [aR (m0 + 1), aR (m0 + 2), aR (m0 + 3), aR (m0 + 4), aR (m0 + 5), aR (m0 + 6), aR (m0 + 7), aR (m0 + 8), aR (m0 + 9), aR (m0 + 10), aR (m0 + 11), aI (s.2 11), aR (m0 + 12), aI (s.2 13), aI (s.2 14), aR (m0 + 13), aI ((a0 + (k : Int)) + 1), aI (s.2 17), aI (s.2 18), aR (m0 + 14), aR (m0 + 15), aR (m0 + 16), aR (m0 + 17), aR (m0 + 18), aR (m0 + 19), aR (m0 + 20), aI (s.2 26)] from rfl, hg_hh9] at hW
          rw [show a0 + (k : Int) + 1 = a0 + ((k + 1 : Nat) : Int) by omega] at hW
          refine g_iinc (L' := [aR m0, aL w, none, aI m, aI 1, aI ((k : Int) + 1), aI (lb w k)]) rfl rfl (by omega) rfl ?_
          refine g_goto rfl rfl ?_
          have h9 := ih (k + 1) _ (aI (lb w k)) (by omega) (by omega) hW
          rw [pz_t (hls.2 ⟨pz_ne y1, pz_ne y2⟩)] at h9
          exact h9
    · obtain rfl : (k : Int) = m := by omega
      refine g_iload rfl rfl ?_
      refine g_iload_n rfl rfl ?_
      refine g_icmpge rfl rfl (fun c1 => ?_) (fun c => absurd c (by omega))
      refine g_iload rfl rfl ?_
      exact r_z rfl rfl (pz01 _) rfl hW
theorem m_spell (hd1 : 1 ≤ d) (hW : WM B m0 h (xF s P W n C)) (w : Int) (hw : r64 w) (m : Int) (hn : 0 ≤ n) (hm : m ≤ 8) (hm0 : 0 ≤ m) (ham : n + m ≤ 3200) : Cal d yMd_spell [aR m0, aL w, aI m] h (RV (some (aI (pz (ltw w m)))) (fun h2 => WM B m0 h2 (xF s P (spW W n w m) (n + m) C))) := by
  obtain ⟨d, rfl⟩ : ∃ e, d = e + 1 := ⟨d - 1, by omega⟩
  have e0 : spW W n w ((0 : Nat) : Int) = W := by
    funext j
    unfold spW
    rw [if_neg (by omega)]
  show Go _ _ 0 [aR m0, aL w, none, aI m, none, none, none] [] _ _
  refine g_iconst (n := 1) rfl (by decide) ?_
  refine g_istore (L' := [aR m0, aL w, none, aI m, aI 1, none, none]) rfl rfl ?_
  refine g_iconst (n := 0) rfl (by decide) ?_
  refine g_istore (L' := [aR m0, aL w, none, aI m, aI 1, aI 0, none]) rfl rfl ?_
  have h9 := ms_loop (d := d) (B := B) (m0 := m0) (s := s) (P := P) (C := C) w hw W n m hn hm hm0 ham m.toNat 0 h none (by omega) (by omega) (by rw [e0, show n + ((0 : Nat) : Int) = n by omega]; exact hW)
  rw [pz_t (show ltw w ((0 : Nat) : Int) from fun j hj => by omega)] at h9
  exact h9
end Md5
