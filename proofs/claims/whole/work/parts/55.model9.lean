/-! The reference: a header. -/
/-- the page holds the list -/
def PL (P : Nat → Int) (l : List Int) : Prop := ∀ j, j < l.length → P j = l.getD j 0
section Md9
variable {B h : AH} {m0 d t : Nat} {s : MS} {P W C : Nat → Int} {n : Int} {l : List Int}
theorem PL.ovl (hP : PL P l) {F : Nat → Int} {m : List Int} {p q k : Int} (hq : ∀ j, j < m.length → F (q.toNat + j) = m.getD j 0) (hk : k = m.length) (h0 : 0 ≤ p) (hq0 : 0 ≤ q) : PL (cyW F P p q k) (ovl l p m) := by
  intro j hj
  rw [ovl_len] at hj
  rw [ovl_get hj]
  unfold cyW
  by_cases e : p ≤ (j : Int) ∧ (j : Int) < p + k
  · rw [if_pos e, if_pos (by omega), ← hq _ (by omega)]
    congr 1
    omega
  · rw [if_neg e, if_neg (by omega)]
    exact hP j hj
theorem PL.put (hP : PL P l) {i b : Int} (h0 : 0 ≤ i) (h1 : i < l.length) : PL (va_up P i.toNat (a8 b)) (rput l i b) := by
  intro j hj
  rw [rput_len] at hj
  rw [rput_get h0 h1]
  unfold va_up
  by_cases e : j = i.toNat
  · rw [if_pos e, if_pos e]
  · rw [if_neg e, if_neg e]
    exact hP j hj
theorem PL.oct (hP : PL P l) {f v : Int} {m : Nat} (hf : 0 ≤ f) (hl : f + m < l.length) : PL (octF P f m v) (poct l f m v) := octF_list hf hl hP
theorem PL.pg (hP : PL P l) (hl : l.length = (s.2 13).toNat) : pg (xF s P W n C) = l := by
  show oF (s.2 13).toNat P = l
  rw [← hl]
  exact (oF_ext fun j hj => hP j hj).trans (oF_of l)
theorem wy_x (s : MS) (P W C : Nat → Int) (n : Int) : wy (xF s P W n C) = oF n.toNat W := rfl
theorem cy_s {F P0 : Nat → Int} {p q i : Int} (hp : 0 ≤ p) (hi : 0 ≤ i) : va_up (cyW F P0 p q i) (p + i).toNat (F (q + i).toNat) = cyW F P0 p q (i + 1) := by
  funext j
  unfold va_up cyW
  by_cases e : j = (p + i).toNat
  · rw [if_pos e, if_pos (by omega), show q + ((j : Int) - p) = q + i by omega]
  · rw [if_neg e]
    by_cases e2 : p ≤ (j : Int) ∧ (j : Int) < p + i
    · rw [if_pos e2, if_pos (by omega)]
    · rw [if_neg e2, if_neg (by omega)]
theorem cy_0 (F P0 : Nat → Int) (p q : Int) : cyW F P0 p q 0 = P0 := by
  funext j
  unfold cyW
  rw [if_neg (by omega)]
theorem hA {Q : AO → AH → Prop} (att k cut sec : Int) (P0 : Nat → Int) (ha : 0 ≤ att) (ha2 : att + 512 ≤ 10240) (hs : 0 ≤ sec) (hn : n ≤ 3200) (hns : sec ≤ n) (hm : n - sec ≤ 512) (kk : ∀ (h : AH), WM B m0 h (xF s (cyW W P0 att sec ((n - sec))) W n C) → Go d yMd_head 66 [aR m0, aI att, aI k, aI cut, aI sec, aI (sec + (n - sec))] [] h Q) : ∀ (z : Nat) (i : Int) (h : AH), 0 ≤ i → i ≤ (n - sec) → ((n - sec) - i).toNat ≤ z → WM B m0 h (xF s (cyW W P0 att sec i) W n C) → Go d yMd_head 32 [aR m0, aI att, aI k, aI cut, aI sec, aI (sec + i)] [] h Q := by
  intro z
  induction z with
  | zero =>
    intro i h h0 h1 h2 hW
    obtain rfl : i = (n - sec) := by omega
    refine g_iload rfl rfl ?_
    refine g_aload_n rfl rfl ?_
    refine g_get (ci := 8) (kk := 16) rfl rfl (xF_ob hW) hW.b0 rfl ?_
    refine g_icmpge rfl rfl (fun c1 => ?_) (fun c => absurd c (by omega))
    exact kk _ hW
  | succ z ih =>
    intro i h h0 h1 h2 hW
    by_cases hi : i < (n - sec)
    · have h8 : r8 (W (sec + i).toNat) := xF_8 hW _
      refine g_iload rfl rfl ?_
      refine g_aload_n rfl rfl ?_
      refine g_get (ci := 8) (kk := 16) rfl rfl (xF_ob hW) hW.b0 rfl ?_
      refine g_icmpge rfl rfl (fun c => absurd c (by omega)) (fun c1 => ?_)
      refine g_aload_n rfl rfl ?_
      refine g_get (ci := 8) (kk := 12) rfl rfl (xF_ob hW) hW.b0 rfl ?_
      refine g_iload_n rfl rfl ?_
      refine g_iload rfl rfl ?_
      refine g_iadd rfl (by omega) ?_
      refine g_iload rfl rfl ?_
      refine g_isub rfl (by omega) ?_
      refine g_aload_n rfl rfl ?_
      refine g_get (ci := 8) (kk := 15) rfl rfl (xF_ob hW) hW.b0 rfl ?_
      refine g_iload rfl rfl ?_
      refine g_bald rfl (xF_a13 hW) (by omega) ?_
      refine g_bast rfl (xF_a12 hW) hW.bk (by omega) ?_
      generalize hg_hh2 : hput h (m0 + 12) (eA 1 10240 (va_up ((cyW W P0 att sec i)) ((att + (sec + i)) - sec).toNat (a8 (W (sec + i).toNat)))) = hh2
      rw [show (att + (sec + i) - sec).toNat = (att + i).toNat by omega] at hg_hh2
      have hW := xF_12 hW (att + i).toNat (a8_r (W (sec + i).toNat))
      rw [a8_of h8] at hW hg_hh2
      rw [hg_hh2, cy_s (by omega) h0] at hW
      refine g_iinc (L' := [aR m0, aI att, aI k, aI cut, aI sec, aI (sec + i + 1)]) rfl rfl (by omega) rfl ?_
      refine g_goto rfl rfl ?_
      have h9 := ih (i + 1) _ (by omega) (by omega) (by omega) hW
      rw [show sec + (i + 1) = sec + i + 1 by omega] at h9
      exact h9
    · obtain rfl : i = (n - sec) := by omega
      refine g_iload rfl rfl ?_
      refine g_aload_n rfl rfl ?_
      refine g_get (ci := 8) (kk := 16) rfl rfl (xF_ob hW) hW.b0 rfl ?_
      refine g_icmpge rfl rfl (fun c1 => ?_) (fun c => absurd c (by omega))
      exact kk _ hW
theorem hB {Q : AO → AH → Prop} (att k cut sec : Int) (P0 : Nat → Int) (ha : 0 ≤ att) (ha2 : att + 512 ≤ 10240) (hc : 0 ≤ cut) (hc2 : cut ≤ 155) (kk : ∀ (h : AH), WM B m0 h (xF s (cyW W P0 ((att + 345)) 0 cut) W n C) → Go d yMd_head 101 [aR m0, aI att, aI k, aI cut, aI sec, aI (0 + cut)] [] h Q) : ∀ (z : Nat) (i : Int) (h : AH), 0 ≤ i → i ≤ cut → (cut - i).toNat ≤ z → WM B m0 h (xF s (cyW W P0 ((att + 345)) 0 i) W n C) → Go d yMd_head 69 [aR m0, aI att, aI k, aI cut, aI sec, aI (0 + i)] [] h Q := by
  intro z
  induction z with
  | zero =>
    intro i h h0 h1 h2 hW
    obtain rfl : i = cut := by omega
    refine g_iload rfl rfl ?_
    refine g_iload_n rfl rfl ?_
    refine g_icmpge rfl rfl (fun c1 => ?_) (fun c => absurd c (by omega))
    exact kk _ hW
  | succ z ih =>
    intro i h h0 h1 h2 hW
    by_cases hi : i < cut
    · have h8 : r8 (W (0 + i).toNat) := xF_8 hW _
      refine g_iload rfl rfl ?_
      refine g_iload_n rfl rfl ?_
      refine g_icmpge rfl rfl (fun c => absurd c (by omega)) (fun c1 => ?_)
      refine g_aload_n rfl rfl ?_
      refine g_get (ci := 8) (kk := 12) rfl rfl (xF_ob hW) hW.b0 rfl ?_
      refine g_iload_n rfl rfl ?_
      refine g_sipush (n := 345) rfl (by decide) ?_
      refine g_iadd rfl (by omega) ?_
      refine g_iload rfl rfl ?_
      refine g_iadd rfl (by omega) ?_
      refine g_aload_n rfl rfl ?_
      refine g_get (ci := 8) (kk := 15) rfl rfl (xF_ob hW) hW.b0 rfl ?_
      refine g_iload rfl rfl ?_
      refine g_bald rfl (xF_a13 hW) (by omega) ?_
      rw [show W (0 + i).toNat = W (0 + i).toNat from rfl]
      refine g_bast rfl (xF_a12 hW) hW.bk (by omega) ?_
      generalize hg_hh2 : hput h (m0 + 12) (eA 1 10240 (va_up ((cyW W P0 ((att + 345)) 0 i)) ((att + 345) + (0 + i)).toNat (a8 (W (0 + i).toNat)))) = hh2
      rw [show (att + 345 + (0 + i)).toNat = ((att + 345) + i).toNat by omega] at hg_hh2
      have hW := xF_12 hW ((att + 345) + i).toNat (a8_r (W (0 + i).toNat))
      rw [a8_of h8] at hW hg_hh2
      rw [hg_hh2, cy_s (by omega) h0] at hW
      refine g_iinc (L' := [aR m0, aI att, aI k, aI cut, aI sec, aI (0 + i + 1)]) rfl rfl (by omega) rfl ?_
      refine g_goto rfl rfl ?_
      have h9 := ih (i + 1) _ (by omega) (by omega) (by omega) hW
      rw [show 0 + (i + 1) = 0 + i + 1 by omega] at h9
      exact h9
    · obtain rfl : i = cut := by omega
      refine g_iload rfl rfl ?_
      refine g_iload_n rfl rfl ?_
      refine g_icmpge rfl rfl (fun c1 => ?_) (fun c => absurd c (by omega))
      exact kk _ hW
theorem hS {Q : AO → AH → Prop} (att k cut sec : Int) (P0 : Nat → Int) (ha : 0 ≤ att) (ha2 : att + 512 ≤ 10240) (hk0 : 0 ≤ k) (hk : k < 60) (hz : s.1 7 k.toNat ≤ 100) (kk : ∀ (h : AH), WM B m0 h (xF s (cyW (s.1 11) P0 ((att + 157)) ((2000 * k)) ((s.1 7 k.toNat))) W n C) → Go d yMd_head 308 [aR m0, aI att, aI k, aI cut, aI sec, aI (0 + (s.1 7 k.toNat))] [] h Q) : ∀ (z : Nat) (i : Int) (h : AH), 0 ≤ i → i ≤ (s.1 7 k.toNat) → ((s.1 7 k.toNat) - i).toNat ≤ z → WM B m0 h (xF s (cyW (s.1 11) P0 ((att + 157)) ((2000 * k)) i) W n C) → Go d yMd_head 265 [aR m0, aI att, aI k, aI cut, aI sec, aI (0 + i)] [] h Q := by
  intro z
  induction z with
  | zero =>
    intro i h h0 h1 h2 hW
    obtain rfl : i = (s.1 7 k.toNat) := by omega
    refine g_iload rfl rfl ?_
    refine g_aload_n rfl rfl ?_
    refine g_get (ci := 8) (kk := 6) rfl rfl (xF_ob hW) hW.b0 rfl ?_
    refine g_iload_n rfl rfl ?_
    refine g_iald rfl (xF_a7 hW) (by omega) ?_
    rw [show (s.1 7) (k).toNat = s.1 7 k.toNat from rfl]
    refine g_icmpge rfl rfl (fun c1 => ?_) (fun c => absurd c (by omega))
    exact kk _ hW
  | succ z ih =>
    intro i h h0 h1 h2 hW
    by_cases hi : i < (s.1 7 k.toNat)
    · have h8 : r8 ((s.1 11) ((2000 * k) + i).toNat) := xF_b8 hW _
      refine g_iload rfl rfl ?_
      refine g_aload_n rfl rfl ?_
      refine g_get (ci := 8) (kk := 6) rfl rfl (xF_ob hW) hW.b0 rfl ?_
      refine g_iload_n rfl rfl ?_
      refine g_iald rfl (xF_a7 hW) (by omega) ?_
      rw [show (s.1 7) (k).toNat = s.1 7 k.toNat from rfl]
      refine g_icmpge rfl rfl (fun c => absurd c (by omega)) (fun c1 => ?_)
      refine g_aload_n rfl rfl ?_
      refine g_get (ci := 8) (kk := 12) rfl rfl (xF_ob hW) hW.b0 rfl ?_
      refine g_iload_n rfl rfl ?_
      refine g_sipush (n := 157) rfl (by decide) ?_
      refine g_iadd rfl (by omega) ?_
      refine g_iload rfl rfl ?_
      refine g_iadd rfl (by omega) ?_
      refine g_aload_n rfl rfl ?_
      refine g_get (ci := 8) (kk := 10) rfl rfl (xF_ob hW) hW.b0 rfl ?_
      refine g_sipush (n := 2000) rfl (by decide) ?_
      refine g_iload_n rfl rfl ?_
      refine g_imul rfl (by omega) ?_
      refine g_iload rfl rfl ?_
      refine g_iadd rfl (by omega) ?_
      refine g_bald rfl (xF_a11 hW) (by omega) ?_
      rw [show (s.1 11) ((2000 * k) + (0 + i)).toNat = s.1 11 (2000 * k + i).toNat from by rw [show 2000 * k + (0 + i) = 2000 * k + i by omega]]
      refine g_bast rfl (xF_a12 hW) hW.bk (by omega) ?_
      generalize hg_hh2 : hput h (m0 + 12) (eA 1 10240 (va_up ((cyW (s.1 11) P0 ((att + 157)) ((2000 * k)) i)) ((att + 157) + (0 + i)).toNat (a8 (s.1 11 (2000 * k + i).toNat)))) = hh2
      rw [show (att + 157 + (0 + i)).toNat = ((att + 157) + i).toNat by omega] at hg_hh2
      have hW := xF_12 hW ((att + 157) + i).toNat (a8_r ((s.1 11) ((2000 * k) + i).toNat))
      rw [a8_of h8] at hW hg_hh2
      rw [hg_hh2, cy_s (by omega) h0] at hW
      refine g_iinc (L' := [aR m0, aI att, aI k, aI cut, aI sec, aI (0 + i + 1)]) rfl rfl (by omega) rfl ?_
      refine g_goto rfl rfl ?_
      have h9 := ih (i + 1) _ (by omega) (by omega) (by omega) hW
      rw [show 0 + (i + 1) = 0 + i + 1 by omega] at h9
      exact h9
    · obtain rfl : i = (s.1 7 k.toNat) := by omega
      refine g_iload rfl rfl ?_
      refine g_aload_n rfl rfl ?_
      refine g_get (ci := 8) (kk := 6) rfl rfl (xF_ob hW) hW.b0 rfl ?_
      refine g_iload_n rfl rfl ?_
      refine g_iald rfl (xF_a7 hW) (by omega) ?_
      rw [show (s.1 7) (k).toNat = s.1 7 k.toNat from rfl]
      refine g_icmpge rfl rfl (fun c1 => ?_) (fun c => absurd c (by omega))
      exact kk _ hW
theorem hH {Q : AO → AH → Prop} (att k cut sec : Int) (P0 : Nat → Int) (ha : 0 ≤ att) (ha2 : att + 512 ≤ 10240) (hn0 : 0 ≤ n) (hn : n ≤ 100) (kk : ∀ (h : AH), WM B m0 h (xF s (cyW W P0 ((att + 157)) 0 n) W n C) → Go d yMd_head 369 [aR m0, aI att, aI k, aI cut, aI sec, aI (0 + n)] [] h Q) : ∀ (z : Nat) (i : Int) (h : AH), 0 ≤ i → i ≤ n → (n - i).toNat ≤ z → WM B m0 h (xF s (cyW W P0 ((att + 157)) 0 i) W n C) → Go d yMd_head 334 [aR m0, aI att, aI k, aI cut, aI sec, aI (0 + i)] [] h Q := by
  intro z
  induction z with
  | zero =>
    intro i h h0 h1 h2 hW
    obtain rfl : i = n := by omega
    refine g_iload rfl rfl ?_
    refine g_aload_n rfl rfl ?_
    refine g_get (ci := 8) (kk := 16) rfl rfl (xF_ob hW) hW.b0 rfl ?_
    refine g_icmpge rfl rfl (fun c1 => ?_) (fun c => absurd c (by omega))
    exact kk _ hW
  | succ z ih =>
    intro i h h0 h1 h2 hW
    by_cases hi : i < n
    · have h8 : r8 (W (0 + i).toNat) := xF_8 hW _
      refine g_iload rfl rfl ?_
      refine g_aload_n rfl rfl ?_
      refine g_get (ci := 8) (kk := 16) rfl rfl (xF_ob hW) hW.b0 rfl ?_
      refine g_icmpge rfl rfl (fun c => absurd c (by omega)) (fun c1 => ?_)
      refine g_aload_n rfl rfl ?_
      refine g_get (ci := 8) (kk := 12) rfl rfl (xF_ob hW) hW.b0 rfl ?_
      refine g_iload_n rfl rfl ?_
      refine g_sipush (n := 157) rfl (by decide) ?_
      refine g_iadd rfl (by omega) ?_
      refine g_iload rfl rfl ?_
      refine g_iadd rfl (by omega) ?_
      refine g_aload_n rfl rfl ?_
      refine g_get (ci := 8) (kk := 15) rfl rfl (xF_ob hW) hW.b0 rfl ?_
      refine g_iload rfl rfl ?_
      refine g_bald rfl (xF_a13 hW) (by omega) ?_
      rw [show W (0 + i).toNat = W (0 + i).toNat from rfl]
      refine g_bast rfl (xF_a12 hW) hW.bk (by omega) ?_
      generalize hg_hh2 : hput h (m0 + 12) (eA 1 10240 (va_up ((cyW W P0 ((att + 157)) 0 i)) ((att + 157) + (0 + i)).toNat (a8 (W (0 + i).toNat)))) = hh2
      rw [show (att + 157 + (0 + i)).toNat = ((att + 157) + i).toNat by omega] at hg_hh2
      have hW := xF_12 hW ((att + 157) + i).toNat (a8_r (W (0 + i).toNat))
      rw [a8_of h8] at hW hg_hh2
      rw [hg_hh2, cy_s (by omega) h0] at hW
      refine g_iinc (L' := [aR m0, aI att, aI k, aI cut, aI sec, aI (0 + i + 1)]) rfl rfl (by omega) rfl ?_
      refine g_goto rfl rfl ?_
      have h9 := ih (i + 1) _ (by omega) (by omega) (by omega) hW
      rw [show 0 + (i + 1) = 0 + i + 1 by omega] at h9
      exact h9
    · obtain rfl : i = n := by omega
      refine g_iload rfl rfl ?_
      refine g_aload_n rfl rfl ?_
      refine g_get (ci := 8) (kk := 16) rfl rfl (xF_ob hW) hW.b0 rfl ?_
      refine g_icmpge rfl rfl (fun c1 => ?_) (fun c => absurd c (by omega))
      exact kk _ hW
theorem hMk {Q : AO → AH → Prop} (att k cut sec : Int) (P0 : Nat → Int) (ha : 0 ≤ att) (ha2 : att + 512 ≤ 10240) (kk : ∀ (h : AH), WM B m0 h (xF s (cyW mkf P0 (att + 257) 0 8) W n C) → Go (d + 1) yMd_head 404 [aR m0, aI att, aI k, aI cut, aI sec, aI 8] [] h Q) : ∀ (z : Nat) (i : Int) (h : AH), 0 ≤ i → i ≤ 8 → (8 - i).toNat ≤ z → WM B m0 h (xF s (cyW mkf P0 (att + 257) 0 i) W n C) → Go (d + 1) yMd_head 372 [aR m0, aI att, aI k, aI cut, aI sec, aI i] [] h Q := by
  intro z
  induction z with
  | zero =>
    intro i h h0 h1 h2 hW
    obtain rfl : i = 8 := by omega
    refine g_iload rfl rfl ?_
    refine g_bipush (n := 8) rfl (by decide) ?_
    refine g_icmpge rfl rfl (fun c => ?_) (fun c => absurd c (by decide))
    exact kk _ hW
  | succ z ih =>
    intro i h h0 h1 h2 hW
    by_cases hi : i < 8
    · have hr := mkf_r i.toNat
      refine g_iload rfl rfl ?_
      refine g_bipush (n := 8) rfl (by decide) ?_
      refine g_icmpge rfl rfl (fun c => absurd c (by omega)) (fun c1 => ?_)
      refine g_aload_n rfl rfl ?_
      refine g_get (ci := 8) (kk := 12) rfl rfl (xF_ob hW) hW.b0 rfl ?_
      refine g_iload_n rfl rfl ?_
      refine g_sipush (n := 257) rfl (by decide) ?_
      refine g_iadd rfl (by omega) ?_
      refine g_iload rfl rfl ?_
      refine g_iadd rfl (by omega) ?_
      refine g_iload rfl rfl ?_
      refine g_S (z := yMd_markOf) (e := 1) (A := [aI i]) (rest := [aI ((att + 257) + i), aR (m0 + 12)]) (v := aI (mkf i.toNat)) (P := fun h2 => h2 = h) rfl rfl rfl rfl rfl rfl (by omega) (m_markOf _ h0 hi) ?_
      intro hh9 he9
      rw [he9]
      clear he9 hh9
      refine g_i2b rfl ?_
      refine g_bast rfl (xF_a12 hW) hW.bk (by omega) ?_
      generalize hg_hh2 : hput h (m0 + 12) (eA 1 10240 (va_up ((cyW mkf P0 (att + 257) 0 i)) ((att + 257) + i).toNat (a8 (a8 (mkf i.toNat))))) = hh2
      have hW := xF_12 hW (att + 257 + i).toNat (a8_r (a8 (mkf i.toNat)))
      rw [a8_of (a8_r _), a8_of (x := mkf i.toNat) ⟨by omega, by omega⟩] at hW hg_hh2
      rw [hg_hh2] at hW
      have cs := cy_s (F := mkf) (P0 := P0) (p := att + 257) (q := 0) (i := i) (by omega) h0
      rw [show (0 : Int) + i = i by omega] at cs
      rw [cs] at hW
      refine g_iinc (L' := [aR m0, aI att, aI k, aI cut, aI sec, aI (i + 1)]) rfl rfl (by omega) rfl ?_
      refine g_goto rfl rfl ?_
      exact ih (i + 1) _ (by omega) (by omega) (by omega) hW
    · obtain rfl : i = 8 := by omega
      refine g_iload rfl rfl ?_
      refine g_bipush (n := 8) rfl (by decide) ?_
      refine g_icmpge rfl rfl (fun c => ?_) (fun c => absurd c (by decide))
      exact kk _ hW
end Md9
