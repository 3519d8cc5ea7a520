/-! The reference: it tells a node's path. -/
section Md7
variable {B h : AH} {m0 d t : Nat} {s : MS} {P W C : Nat → Int} {n : Int}
def anM (s : MS) (t : Nat) (node : Int) : Nat → Int
  | 0 => node
  | j + 1 => ((mst s).2.1 ((mst s).2.2.1 t (anM s t node j).toNat) 1)
theorem anM_r (hT : TI (mst s) t) {node : Int} (h0 : 0 ≤ node) (h1 : node < ((mst s).2.2.2.1 t)) : ∀ j : Nat, (∀ i : Nat, i < j → 0 < anM s t node i) → 0 ≤ anM s t node j ∧ anM s t node j + j ≤ node := by
  intro j
  induction j with
  | zero => intro _; exact ⟨h0, by show node + 0 ≤ node; omega⟩
  | succ j ih =>
    intro hp
    have i1 := ih (fun i hi => hp i (by omega))
    have p := hp j (by omega)
    have d1 := hT.d (anM s t node j).toNat (by omega) (by omega)
    show 0 ≤ ((mst s).2.1 ((mst s).2.2.1 t (anM s t node j).toNat) 1) ∧ ((mst s).2.1 ((mst s).2.2.1 t (anM s t node j).toNat) 1) + ((j + 1 : Nat) : Int) ≤ node
    omega
noncomputable def tlM (s : MS) (t : Nat) (node : Int) (K : Nat) : List Int := if K = 0 then pth (mst s) t node else upl (mst s) t (30 - K) (anM s t node K)
theorem cyW_list (F W : Nat → Int) {a0 f m : Int} (ha : 0 ≤ a0) (hf : 0 ≤ f) (hm : 0 ≤ m) : oF (a0 + m).toNat (cyW F W a0 f m) = oF a0.toNat W ++ oF m.toNat (fun j => F (f.toNat + j)) := by
  refine li_ext (by rw [oF_len, List.length_append, oF_len, oF_len]; omega) (fun j hj => ?_)
  rw [oF_len] at hj
  rw [oF_get hj, getD_app, oF_len]
  unfold cyW
  by_cases e : j < a0.toNat
  · rw [if_neg (by omega), if_pos e, oF_get e]
  · rw [if_pos (by omega), if_neg e, oF_get (by omega)]
    congr 1
    omega
theorem put47_list (W : Nat → Int) {a0 : Int} (ha : 0 ≤ a0) : oF (a0 + 1).toNat (va_up W a0.toNat 47) = oF a0.toNat W ++ [47] := by
  refine li_ext (by rw [oF_len, List.length_append, oF_len]; simp; omega) (fun j hj => ?_)
  rw [oF_len] at hj
  rw [oF_get hj, getD_app, oF_len]
  unfold va_up
  by_cases e : j < a0.toNat
  · rw [if_neg (by omega), if_pos e, oF_get e]
  · rw [if_pos (by omega), if_neg e, show j - a0.toNat = 0 by omega]
    rfl
theorem upl_up {st : CS} {t : Nat} {a : Int} {K : Nat} (hK : K < 30) (h0 : 0 < a) (h1 : a < (st.2.2.2.1 t)) : upl st t (30 - K) a = upl st t (30 - (K + 1)) ((st.2.1 (st.2.2.1 t a.toNat) 1)) ++ ((st.1 (2 * st.2.2.1 t a.toNat)) ++ (if 0 < K then [47] else [])) := by
  obtain ⟨r, hr⟩ : ∃ r, 30 - K = r + 1 := ⟨29 - K, by omega⟩
  rw [hr, show 30 - (K + 1) = r by omega, upl, if_pos ⟨h0, h1⟩]
  by_cases z : 0 < K
  · rw [if_pos z, if_pos (by omega)]
  · rw [if_neg z, if_neg (by omega)]
theorem te_in {Q : AO → AH → Prop} (hM : MOK s) (node kk0 x2 x3 : Int) (o : Nat) (ho : o < 60) (W0 : Nat → Int) (a0 : Int) (ha : 0 ≤ a0) (ha2 : a0 + s.1 3 o ≤ 3199) (kk : ∀ (h : AH) (v6 : AV), WM B m0 h (xF s P (cyW (s.1 10) W0 a0 (100 * (o : Int)) (s.1 3 o)) (a0 + s.1 3 o) C) → Go d yMd_tell 115 [aR m0, aI node, aI x2, aI x3, aI kk0, aI (o : Int), v6] [] h Q) : ∀ (q : Nat) (i : Int) (h : AH), 0 ≤ i → i ≤ s.1 3 o → (s.1 3 o - i).toNat ≤ q → WM B m0 h (xF s P (cyW (s.1 10) W0 a0 (100 * (o : Int)) i) (a0 + i) C) → Go d yMd_tell 65 [aR m0, aI node, aI x2, aI x3, aI kk0, aI (o : Int), aI i] [] h Q := by
  have hm := hM.1 o ho
  intro q
  induction q with
  | zero =>
    intro i h h0 h1 h2 hW
    obtain rfl : i = s.1 3 o := by omega
    refine g_iload rfl rfl ?_
    refine g_aload_n rfl rfl ?_
    refine g_get (ci := 8) (kk := 2) rfl rfl (xF_ob hW) hW.b0 rfl ?_
    refine g_iload rfl rfl ?_
    refine g_iald rfl (xF_a3 hW) (by omega) ?_
    rw [show (s.1 3) ((o : Int)).toNat = s.1 3 o from rfl]
    refine g_icmpge rfl rfl (fun c1 => ?_) (fun c => absurd c (by omega))
    exact kk _ _ hW
  | succ q ih =>
    intro i h h0 h1 h2 hW
    by_cases hi : i < s.1 3 o
    · have h8 := xF_n8 hW (100 * (o : Int) + i).toNat
      have hsp : va_up (cyW (s.1 10) W0 a0 (100 * (o : Int)) i) (a0 + i).toNat (s.1 10 (100 * (o : Int) + i).toNat) = cyW (s.1 10) W0 a0 (100 * (o : Int)) (i + 1) := by
        funext j
        unfold va_up cyW
        by_cases e : j = (a0 + i).toNat
        · rw [if_pos e, if_pos (by omega), show 100 * (o : Int) + ((j : Int) - a0) = 100 * (o : Int) + i by omega]
        · rw [if_neg e]
          by_cases e2 : a0 ≤ (j : Int) ∧ (j : Int) < a0 + i
          · rw [if_pos e2, if_pos (by omega)]
          · rw [if_neg e2, if_neg (by omega)]
      refine g_iload rfl rfl ?_
      refine g_aload_n rfl rfl ?_
      refine g_get (ci := 8) (kk := 2) rfl rfl (xF_ob hW) hW.b0 rfl ?_
      refine g_iload rfl rfl ?_
      refine g_iald rfl (xF_a3 hW) (by omega) ?_
      rw [show (s.1 3) ((o : Int)).toNat = s.1 3 o from rfl]
      refine g_icmpge rfl rfl (fun c => absurd c (by omega)) (fun c1 => ?_)
      refine g_aload_n rfl rfl ?_
      refine g_get (ci := 8) (kk := 15) rfl rfl (xF_ob hW) hW.b0 rfl ?_
      refine g_aload_n rfl rfl ?_
      refine g_get (ci := 8) (kk := 16) rfl rfl (xF_ob hW) hW.b0 rfl ?_
      refine g_aload_n rfl rfl ?_
      refine g_get (ci := 8) (kk := 9) rfl rfl (xF_ob hW) hW.b0 rfl ?_
      refine g_bipush (n := 100) rfl (by decide) ?_
      refine g_iload rfl rfl ?_
      refine g_imul rfl (by omega) ?_
      refine g_iload rfl rfl ?_
      refine g_iadd rfl (by omega) ?_
      refine g_bald rfl (xF_a10 hW) (by omega) ?_
      refine g_bast rfl (xF_a13 hW) hW.bk (by omega) ?_
      generalize hg_hh2 : hput h (m0 + 13) (eA 1 3200 (va_up ((cyW (s.1 10) W0 a0 (100 * (o : Int)) i)) (a0 + i).toNat (a8 ((s.1 10) ((100 * ((o : Int))) + i).toNat)))) = hh2
      have hW := xF_13 hW (a0 + i).toNat (a8_r (s.1 10 (100 * (o : Int) + i).toNat))
      rw [hg_hh2, a8_of h8, hsp] at hW
      refine g_aload_n rfl rfl ?_
      refine g_dup rfl rfl ?_
      refine g_get (ci := 8) (kk := 16) rfl rfl (xF_ob hW) hW.b0 rfl ?_
      refine g_iconst (n := 1) rfl (by decide) ?_
      refine g_iadd rfl (by omega) ?_
      refine g_put (ci := 8) (kk := 16) (fs' := [aR (m0 + 1), aR (m0 + 2), aR (m0 + 3), aR (m0 + 4), aR (m0 + 5), aR (m0 + 6), aR (m0 + 7), aR (m0 + 8), aR (m0 + 9), aR (m0 + 10), aR (m0 + 11), aI (s.2 11), aR (m0 + 12), aI (s.2 13), aI (s.2 14), aR (m0 + 13), aI ((a0 + i) + 1), aI (s.2 17), aI (s.2 18), aR (m0 + 14), aR (m0 + 15), aR (m0 + 16), aR (m0 + 17), aR (m0 + 18), aR (m0 + 19), aR (m0 + 20), aI (s.2 26)]) rfl rfl (xF_ob hW) hW.b0 (Nat.le_of_ble_eq_true rfl) rfl (by decide) rfl ?_
      generalize hg_hh3 : hput hh2 m0 (eO 8 [aR (m0 + 1), aR (m0 + 2), aR (m0 + 3), aR (m0 + 4), aR (m0 + 5), aR (m0 + 6), aR (m0 + 7), aR (m0 + 8), aR (m0 + 9), aR (m0 + 10), aR (m0 + 11), aI (s.2 11), aR (m0 + 12), aI (s.2 13), aI (s.2 14), aR (m0 + 13), aI ((a0 + i) + 1), aI (s.2 17), aI (s.2 18), aR (m0 + 14), aR (m0 + 15), aR (m0 + 16), aR (m0 + 17), aR (m0 + 18), aR (m0 + 19), aR (m0 + 20), aI (s.2 26)]) = hh3
      have hW := xF_n hW (a0 + i + 1)
      rw [show mcel m0 (va_up s.2 16 (a0 + i + 1)) = eO 8 [aR (m0 + 1), aR (m0 + 2), aR (m0 + 3), aR (m0 + 4), aR (m0 + 5), aR (m0 + 6), aR (m0 + 7), aR (m0 + 8), aR (m0 + 9), aR (m0 + 10), aR (m0 + 11), aI (s.2 11), aR (m0 + 12), aI (s.2 13), aI (s.2 14), aR (m0 + 13), aI ((a0 + i) + 1), aI (s.2 17), aI (s.2 18), aR (m0 + 14), aR (m0 + 15), aR (m0 + 16), aR (m0 + 17), aR (m0 + 18), aR (m0 + 19), aR (m0 + 20), aI (s.2 26)] from rfl, hg_hh3] at hW
      refine g_iinc (L' := [aR m0, aI node, aI x2, aI x3, aI kk0, aI ((o : Int)), aI (i + 1)]) rfl rfl (by omega) rfl ?_
      refine g_goto rfl rfl ?_
      exact ih (i + 1) _ (by omega) (by omega) (by omega) (by rw [show a0 + (i + 1) = a0 + i + 1 by omega]; exact hW)
    · obtain rfl : i = s.1 3 o := by omega
      refine g_iload rfl rfl ?_
      refine g_aload_n rfl rfl ?_
      refine g_get (ci := 8) (kk := 2) rfl rfl (xF_ob hW) hW.b0 rfl ?_
      refine g_iload rfl rfl ?_
      refine g_iald rfl (xF_a3 hW) (by omega) ?_
      rw [show (s.1 3) ((o : Int)).toNat = s.1 3 o from rfl]
      refine g_icmpge rfl rfl (fun c1 => ?_) (fun c => absurd c (by omega))
      exact kk _ _ hW
theorem te_2 (hM : MOK s) (ht : t < 2) (hb : s.2 11 = 30 * (t : Int)) (hT : TI (mst s) t) (node : Int) (hn0 : 0 ≤ node) (hn1 : node < ((mst s).2.2.2.1 t)) (x2 x3 : Int) (D : Nat) (hD : D < 30) (hpos : ∀ i : Nat, i < D → 0 < anM s t node i) (hC : ∀ i : Nat, i < D → C i = anM s t node i) : ∀ (K : Nat) (h : AH) (W : Nat → Int) (n : Int) (v5 v6 : AV), K ≤ D → WM B m0 h (xF s P W n C) → oF n.toNat W = tlM s t node K → n = (tlM s t node K).length → Go d yMd_tell 43 [aR m0, aI node, aI x2, aI x3, aI ((K : Int) - 1), v5, v6] [] h (RV none (fun h2 => ∃ W' n', WM B m0 h2 (xF s P W' n' C) ∧ oF n'.toNat W' = pth (mst s) t node ∧ n' = (pth (mst s) t node).length)) := by
  have hc := hT.c
  intro K
  induction K with
  | zero =>
    intro h W n v5 v6 hK hW hl hnl
    refine g_iload rfl rfl ?_
    refine g_iflt rfl rfl (fun c1 => ?_) (fun c => absurd c (by omega))
    exact r_v rfl rfl ⟨_, _, hW, hl, hnl⟩
  | succ K ih =>
    intro h W n v5 v6 hK hW hl hnl
    have hp := hpos K (by omega)
    have har := anM_r hT hn0 hn1 K (fun i hi => hpos i (by omega))
    have hCK := hC K (by omega)
    have eK : (((K + 1 : Nat) : Int) - 1).toNat = K := by omega
    have e1 : anM s t node (K + 1) = ((mst s).2.1 ((mst s).2.2.1 t (anM s t node K).toNat) 1) := rfl
    obtain ⟨a, ha⟩ : ∃ a : Nat, anM s t node K = a := ⟨(anM s t node K).toNat, by omega⟩
    rw [ha] at hp har hCK
    rw [ha, Int.toNat_natCast] at e1
    have hm := hM.1 (30 * t + a) (by omega)
    have eN : ((mst s).1 (2 * (mst s).2.2.1 t a)) = nmM s (30 * t + a) := mst_nm s ht (by omega)
    have hu := upl_up (st := mst s) (t := t) (a := (a : Int)) (K := K) (by omega) hp (by omega)
    rw [Int.toNat_natCast] at hu
    have htl : tlM s t node (K + 1) = upl (mst s) t (30 - (K + 1)) (((mst s).2.1 ((mst s).2.2.1 t a) 1)) := by
      unfold tlM
      rw [if_neg (by omega), e1]
    have hul := upl_len hT (30 - (K + 1)) (((mst s).2.1 ((mst s).2.2.1 t a) 1))
    rw [htl] at hl hnl
    have hn : 0 ≤ n ∧ n ≤ 2929 := by omega
    have hcy := cyW_list (s.1 10) W (a0 := n) (f := 100 * ((30 * t + a : Nat) : Int)) (m := s.1 3 (30 * t + a)) hn.1 (by omega) hm.1
    rw [show (100 * ((30 * t + a : Nat) : Int)).toNat = 100 * (30 * t + a) by omega, hl, show oF (s.1 3 (30 * t + a)).toNat (fun j => s.1 10 (100 * (30 * t + a) + j)) = nmM s (30 * t + a) from rfl, ← eN] at hcy
    have hnl2 : (((mst s).1 (2 * (mst s).2.2.1 t a))).length = (s.1 3 (30 * t + a)).toNat := by rw [eN]; exact nmM_len _ _
    refine g_iload rfl rfl ?_
    refine g_iflt rfl rfl (fun c => absurd c (by omega)) (fun c1 => ?_)
    refine g_aload_n rfl rfl ?_
    refine g_get (ci := 8) (kk := 11) rfl rfl (xF_ob hW) hW.b0 rfl ?_
    rw [show s.2 11 = 30 * (t : Int) from hb]
    refine g_aload_n rfl rfl ?_
    refine g_get (ci := 8) (kk := 19) rfl rfl (xF_ob hW) hW.b0 rfl ?_
    refine g_iload rfl rfl ?_
    refine g_iald rfl (xF_a14 hW) (by omega) ?_
    rw [show C (((((K + 1 : Nat) : Int) : Int) - 1)).toNat = (a : Int) from by rw [eK]; exact hCK]
    refine g_iadd rfl (by omega) ?_
    refine g_istore (L' := [aR m0, aI node, aI x2, aI x3, aI (((((K + 1 : Nat) : Int) : Int) - 1)), aI ((30 * (t : Int)) + ((a : Int))), v6]) rfl rfl ?_
    refine g_iconst (n := 0) rfl (by decide) ?_
    refine g_istore (L' := [aR m0, aI node, aI x2, aI x3, aI (((((K + 1 : Nat) : Int) : Int) - 1)), aI ((30 * (t : Int)) + ((a : Int))), aI 0]) rfl rfl ?_
    have e9 : 30 * (t : Int) + (a : Int) = ((30 * t + a : Nat) : Int) := by omega
    rw [e9]
    refine te_in hM node (((K + 1 : Nat) : Int) - 1) _ _ (30 * t + a) (by omega) W n hn.1 (by omega) (fun h v6 hW => ?_) (s.1 3 (30 * t + a)).toNat 0 _ (by omega) (by omega) (by omega) (by rw [show cyW (s.1 10) W n (100 * ((30 * t + a : Nat) : Int)) 0 = W from by funext j; unfold cyW; rw [if_neg (by omega)], show n + 0 = n by omega]; exact hW)
    generalize hWN : cyW (s.1 10) W n (100 * ((30 * t + a : Nat) : Int)) (s.1 3 (30 * t + a)) = WN at *
    generalize hNN : n + s.1 3 (30 * t + a) = NN at *
    refine g_iload rfl rfl ?_
    refine g_ifgt rfl rfl (fun c1 => ?_) (fun c1 => ?_)
    · skip
      have cK := c1
      refine g_aload_n rfl rfl ?_
      refine g_get (ci := 8) (kk := 15) rfl rfl (xF_ob hW) hW.b0 rfl ?_
      refine g_aload_n rfl rfl ?_
      refine g_get (ci := 8) (kk := 16) rfl rfl (xF_ob hW) hW.b0 rfl ?_
      refine g_bipush (n := 47) rfl (by decide) ?_
      refine g_bast rfl (xF_a13 hW) hW.bk (by omega) ?_
      generalize hg_hh2 : hput h (m0 + 13) (eA 1 3200 (va_up WN (NN).toNat (a8 47))) = hh2
      have hW := xF_13 hW NN.toNat (a8_r 47)
      rw [hg_hh2, a8_id (x := 47) (by omega) (by omega)] at hW
      have h47 := put47_list WN (a0 := NN) (by omega)
      rw [hcy] at h47
      refine g_aload_n rfl rfl ?_
      refine g_dup rfl rfl ?_
      refine g_get (ci := 8) (kk := 16) rfl rfl (xF_ob hW) hW.b0 rfl ?_
      refine g_iconst (n := 1) rfl (by decide) ?_
      refine g_iadd rfl (by omega) ?_
      refine g_put (ci := 8) (kk := 16) (fs' := [aR (m0 + 1), aR (m0 + 2), aR (m0 + 3), aR (m0 + 4), aR (m0 + 5), aR (m0 + 6), aR (m0 + 7), aR (m0 + 8), aR (m0 + 9), aR (m0 + 10), aR (m0 + 11), aI (s.2 11), aR (m0 + 12), aI (s.2 13), aI (s.2 14), aR (m0 + 13), aI (NN + 1), aI (s.2 17), aI (s.2 18), aR (m0 + 14), aR (m0 + 15), aR (m0 + 16), aR (m0 + 17), aR (m0 + 18), aR (m0 + 19), aR (m0 + 20), aI (s.2 26)]) rfl rfl (xF_ob hW) hW.b0 (Nat.le_of_ble_eq_true rfl) rfl (by decide) rfl ?_
      generalize hg_hh3 : hput hh2 m0 (eO 8 [aR (m0 + 1), aR (m0 + 2), aR (m0 + 3), aR (m0 + 4), aR (m0 + 5), aR (m0 + 6), aR (m0 + 7), aR (m0 + 8), aR (m0 + 9), aR (m0 + 10), aR (m0 + 11), aI (s.2 11), aR (m0 + 12), aI (s.2 13), aI (s.2 14), aR (m0 + 13), aI (NN + 1), aI (s.2 17), aI (s.2 18), aR (m0 + 14), aR (m0 + 15), aR (m0 + 16), aR (m0 + 17), aR (m0 + 18), aR (m0 + 19), aR (m0 + 20), aI (s.2 26)]) = hh3
      have hW := xF_n hW (NN + 1)
      rw [show mcel m0 (va_up s.2 16 (NN + 1)) = eO 8 [aR (m0 + 1), aR (m0 + 2), aR (m0 + 3), aR (m0 + 4), aR (m0 + 5), aR (m0 + 6), aR (m0 + 7), aR (m0 + 8), aR (m0 + 9), aR (m0 + 10), aR (m0 + 11), aI (s.2 11), aR (m0 + 12), aI (s.2 13), aI (s.2 14), aR (m0 + 13), aI (NN + 1), aI (s.2 17), aI (s.2 18), aR (m0 + 14), aR (m0 + 15), aR (m0 + 16), aR (m0 + 17), aR (m0 + 18), aR (m0 + 19), aR (m0 + 20), aI (s.2 26)] from rfl, hg_hh3] at hW
      refine g_iinc (L' := [aR m0, aI node, aI x2, aI x3, aI (((K + 1 : Nat) : Int) - 1 + (-1)), aI (((30 * t + a : Nat) : Int)), v6]) rfl rfl (by omega) rfl ?_
      refine g_goto rfl rfl ?_
      have htK : tlM s t node K = (upl (mst s) t (30 - (K + 1)) (((mst s).2.1 ((mst s).2.2.1 t a) 1)) ++ ((mst s).1 (2 * (mst s).2.2.1 t a))) ++ [47] := by
        by_cases z : 0 < K
        · unfold tlM
          rw [if_neg (by omega), ha, hu, if_pos z, List.append_assoc]
        · have hk0 : isK (mst s) t node 0 := by
            have e0 : K = 0 := by omega
            subst e0
            have ha2 : node = (a : Int) := ha
            rw [ha2]
            refine ⟨by omega, by omega, ?_⟩
            rw [Int.toNat_natCast]
            first | exact kd0 | (exfalso; omega)
          have e0 : K = 0 := by omega
          subst e0
          have ha2 : node = (a : Int) := ha
          unfold tlM pth
          rw [if_pos rfl, @if_pos _ (Classical.propDecidable _) hk0, ha2, show (30 : Nat) = 30 - 0 from rfl, hu, if_neg z]
          simp
      have h9 := ih _ (va_up WN NN.toNat 47) (NN + 1) (aI ((30 * t + a : Nat) : Int)) v6 (by omega) hW (by rw [htK]; exact h47) (by rw [htK, List.length_append, List.length_append]; simp only [List.length_cons, List.length_nil]; omega)
      rw [show (K : Int) - 1 = ((K + 1 : Nat) : Int) - 1 + -1 by omega] at h9
      exact h9
    · skip
      have cK := c1
      refine g_aload_n rfl rfl ?_
      refine g_get (ci := 8) (kk := 0) rfl rfl (xF_ob hW) hW.b0 rfl ?_
      refine g_iload rfl rfl ?_
      refine g_iald rfl (xF_a1 hW) (by omega) ?_
      rw [show (s.1 1) (((30 * t + a : Nat) : Int)).toNat = s.1 1 (30 * t + a) from rfl]
      refine g_ifne rfl rfl (fun c4 => ?_) (fun c4 => ?_)
      · skip
        have kd0 : _ := c4
        refine g_iinc (L' := [aR m0, aI node, aI x2, aI x3, aI (((K + 1 : Nat) : Int) - 1 + (-1)), aI (((30 * t + a : Nat) : Int)), v6]) rfl rfl (by omega) rfl ?_
        refine g_goto rfl rfl ?_
        have e0 : K = 0 := by omega
        have htK : tlM s t node K = (upl (mst s) t (30 - (K + 1)) (((mst s).2.1 ((mst s).2.2.1 t a) 1)) ++ ((mst s).1 (2 * (mst s).2.2.1 t a))) := by
          subst e0
          have ha2 : node = (a : Int) := ha
          have hk0 : ¬ isK (mst s) t node 0 := by
            rw [ha2]
            intro z
            have z2 := z.2.2
            rw [Int.toNat_natCast] at z2
            exact kd0 z2
          unfold tlM pth
          rw [if_pos rfl, @if_neg _ (Classical.propDecidable _) hk0, ha2, show (30 : Nat) = 30 - 0 from rfl, hu, if_neg (by omega)]
          simp
        have h9 := ih _ WN NN (aI ((30 * t + a : Nat) : Int)) v6 (by omega) hW (by rw [htK]; exact hcy) (by rw [htK, List.length_append]; omega)
        rw [show (K : Int) - 1 = ((K + 1 : Nat) : Int) - 1 + -1 by omega] at h9
        exact h9
      · skip
        have kd0 : _ := c4
        refine g_aload_n rfl rfl ?_
        refine g_get (ci := 8) (kk := 15) rfl rfl (xF_ob hW) hW.b0 rfl ?_
        refine g_aload_n rfl rfl ?_
        refine g_get (ci := 8) (kk := 16) rfl rfl (xF_ob hW) hW.b0 rfl ?_
        refine g_bipush (n := 47) rfl (by decide) ?_
        refine g_bast rfl (xF_a13 hW) hW.bk (by omega) ?_
        generalize hg_hh5 : hput h (m0 + 13) (eA 1 3200 (va_up WN (NN).toNat (a8 47))) = hh5
        have hW := xF_13 hW NN.toNat (a8_r 47)
        rw [hg_hh5, a8_id (x := 47) (by omega) (by omega)] at hW
        have h47 := put47_list WN (a0 := NN) (by omega)
        rw [hcy] at h47
        refine g_aload_n rfl rfl ?_
        refine g_dup rfl rfl ?_
        refine g_get (ci := 8) (kk := 16) rfl rfl (xF_ob hW) hW.b0 rfl ?_
        refine g_iconst (n := 1) rfl (by decide) ?_
        refine g_iadd rfl (by omega) ?_
        refine g_put (ci := 8) (kk := 16) (fs' := [aR (m0 + 1), aR (m0 + 2), aR (m0 + 3), aR (m0 + 4), aR (m0 + 5), aR (m0 + 6), aR (m0 + 7), aR (m0 + 8), aR (m0 + 9), aR (m0 + 10), aR (m0 + 11), aI (s.2 11), aR (m0 + 12), aI (s.2 13), aI (s.2 14), aR (m0 + 13), aI (NN + 1), aI (s.2 17), aI (s.2 18), aR (m0 + 14), aR (m0 + 15), aR (m0 + 16), aR (m0 + 17), aR (m0 + 18), aR (m0 + 19), aR (m0 + 20), aI (s.2 26)]) rfl rfl (xF_ob hW) hW.b0 (Nat.le_of_ble_eq_true rfl) rfl (by decide) rfl ?_
        generalize hg_hh6 : hput hh5 m0 (eO 8 [aR (m0 + 1), aR (m0 + 2), aR (m0 + 3), aR (m0 + 4), aR (m0 + 5), aR (m0 + 6), aR (m0 + 7), aR (m0 + 8), aR (m0 + 9), aR (m0 + 10), aR (m0 + 11), aI (s.2 11), aR (m0 + 12), aI (s.2 13), aI (s.2 14), aR (m0 + 13), aI (NN + 1), aI (s.2 17), aI (s.2 18), aR (m0 + 14), aR (m0 + 15), aR (m0 + 16), aR (m0 + 17), aR (m0 + 18), aR (m0 + 19), aR (m0 + 20), aI (s.2 26)]) = hh6
        have hW := xF_n hW (NN + 1)
        rw [show mcel m0 (va_up s.2 16 (NN + 1)) = eO 8 [aR (m0 + 1), aR (m0 + 2), aR (m0 + 3), aR (m0 + 4), aR (m0 + 5), aR (m0 + 6), aR (m0 + 7), aR (m0 + 8), aR (m0 + 9), aR (m0 + 10), aR (m0 + 11), aI (s.2 11), aR (m0 + 12), aI (s.2 13), aI (s.2 14), aR (m0 + 13), aI (NN + 1), aI (s.2 17), aI (s.2 18), aR (m0 + 14), aR (m0 + 15), aR (m0 + 16), aR (m0 + 17), aR (m0 + 18), aR (m0 + 19), aR (m0 + 20), aI (s.2 26)] from rfl, hg_hh6] at hW
        refine g_iinc (L' := [aR m0, aI node, aI x2, aI x3, aI (((K + 1 : Nat) : Int) - 1 + (-1)), aI (((30 * t + a : Nat) : Int)), v6]) rfl rfl (by omega) rfl ?_
        refine g_goto rfl rfl ?_
        have htK : tlM s t node K = (upl (mst s) t (30 - (K + 1)) (((mst s).2.1 ((mst s).2.2.1 t a) 1)) ++ ((mst s).1 (2 * (mst s).2.2.1 t a))) ++ [47] := by
          by_cases z : 0 < K
          · unfold tlM
            rw [if_neg (by omega), ha, hu, if_pos z, List.append_assoc]
          · have hk0 : isK (mst s) t node 0 := by
              have e0 : K = 0 := by omega
              subst e0
              have ha2 : node = (a : Int) := ha
              rw [ha2]
              refine ⟨by omega, by omega, ?_⟩
              rw [Int.toNat_natCast]
              first | exact kd0 | (exfalso; omega)
            have e0 : K = 0 := by omega
            subst e0
            have ha2 : node = (a : Int) := ha
            unfold tlM pth
            rw [if_pos rfl, @if_pos _ (Classical.propDecidable _) hk0, ha2, show (30 : Nat) = 30 - 0 from rfl, hu, if_neg z]
            simp
        have h9 := ih _ (va_up WN NN.toNat 47) (NN + 1) (aI ((30 * t + a : Nat) : Int)) v6 (by omega) hW (by rw [htK]; exact h47) (by rw [htK, List.length_append, List.length_append]; simp only [List.length_cons, List.length_nil]; omega)
        rw [show (K : Int) - 1 = ((K + 1 : Nat) : Int) - 1 + -1 by omega] at h9
        exact h9
theorem te_1 (hM : MOK s) (ht : t < 2) (hb : s.2 11 = 30 * (t : Int)) (hT : TI (mst s) t) (node : Int) (hnp : 0 < node) (hn0 : 0 ≤ node) (hn1 : node < ((mst s).2.2.2.1 t)) : ∀ (q j : Nat) (h : AH) (C : Nat → Int), (node - j).toNat ≤ q → (∀ i : Nat, i < j → 0 < anM s t node i) → (∀ i : Nat, i < j → C i = anM s t node i) → WM B m0 h (xF s P W n C) → Go d yMd_tell 4 [aR m0, aI node, aI (j : Int), aI (anM s t node j), none, none, none] [] h (RV none (fun h2 => ∃ W' n' C', WM B m0 h2 (xF s P W' n' C') ∧ oF n'.toNat W' = pth (mst s) t node ∧ n' = (pth (mst s) t node).length)) := by
  have hc := hT.c
  have fin : ∀ (j : Nat) (h : AH) (C : Nat → Int), (∀ i : Nat, i < j → 0 < anM s t node i) → (∀ i : Nat, i < j → C i = anM s t node i) → ¬ 0 < anM s t node j → WM B m0 h (xF s P W n C) → Go d yMd_tell 33 [aR m0, aI node, aI (j : Int), aI (anM s t node j), none, none, none] [] h (RV none (fun h2 => ∃ W' n' C', WM B m0 h2 (xF s P W' n' C') ∧ oF n'.toNat W' = pth (mst s) t node ∧ n' = (pth (mst s) t node).length)) := by
    intro j h C h1 h2 h3 hW
    have har := anM_r hT hn0 hn1 j h1
    have hz : anM s t node j = 0 := by omega
    have htl : tlM s t node j = [] ∨ j = 0 := by
      by_cases z : j = 0
      · exact Or.inr z
      · left
        unfold tlM
        rw [if_neg z, hz]
        exact upl_stop (fun q => by omega)
    refine g_aload_n rfl rfl ?_
    refine g_iconst (n := 0) rfl (by decide) ?_
    refine g_put (ci := 8) (kk := 16) (fs' := [aR (m0 + 1), aR (m0 + 2), aR (m0 + 3), aR (m0 + 4), aR (m0 + 5), aR (m0 + 6), aR (m0 + 7), aR (m0 + 8), aR (m0 + 9), aR (m0 + 10), aR (m0 + 11), aI (s.2 11), aR (m0 + 12), aI (s.2 13), aI (s.2 14), aR (m0 + 13), aI 0, aI (s.2 17), aI (s.2 18), aR (m0 + 14), aR (m0 + 15), aR (m0 + 16), aR (m0 + 17), aR (m0 + 18), aR (m0 + 19), aR (m0 + 20), aI (s.2 26)]) rfl rfl (xF_ob hW) hW.b0 (Nat.le_of_ble_eq_true rfl) rfl (by decide) rfl ?_
    generalize hg_hh1 : hput h m0 (eO 8 [aR (m0 + 1), aR (m0 + 2), aR (m0 + 3), aR (m0 + 4), aR (m0 + 5), aR (m0 + 6), aR (m0 + 7), aR (m0 + 8), aR (m0 + 9), aR (m0 + 10), aR (m0 + 11), aI (s.2 11), aR (m0 + 12), aI (s.2 13), aI (s.2 14), aR (m0 + 13), aI 0, aI (s.2 17), aI (s.2 18), aR (m0 + 14), aR (m0 + 15), aR (m0 + 16), aR (m0 + 17), aR (m0 + 18), aR (m0 + 19), aR (m0 + 20), aI (s.2 26)]) = hh1
    have hW := xF_n hW (0)
    rw [show mcel m0 (va_up s.2 16 (0)) = eO 8 [aR (m0 + 1), aR (m0 + 2), aR (m0 + 3), aR (m0 + 4), aR (m0 + 5), aR (m0 + 6), aR (m0 + 7), aR (m0 + 8), aR (m0 + 9), aR (m0 + 10), aR (m0 + 11), aI (s.2 11), aR (m0 + 12), aI (s.2 13), aI (s.2 14), aR (m0 + 13), aI 0, aI (s.2 17), aI (s.2 18), aR (m0 + 14), aR (m0 + 15), aR (m0 + 16), aR (m0 + 17), aR (m0 + 18), aR (m0 + 19), aR (m0 + 20), aI (s.2 26)] from rfl, hg_hh1] at hW
    refine g_iload_n rfl rfl ?_
    refine g_iconst (n := 1) rfl (by decide) ?_
    refine g_isub rfl (by omega) ?_
    refine g_istore (L' := [aR m0, aI node, aI ((j : Int)), aI (anM s t node j), aI (((j : Int)) - 1), none, none]) rfl rfl ?_
    have z : j ≠ 0 := fun z => by subst z; exact h3 hnp
    have h9 := te_2 (d := d) (B := B) (m0 := m0) (P := P) (C := C) hM ht hb hT node hn0 hn1 (j : Int) (anM s t node j) j (by omega) h1 h2 j _ W 0 none none (Nat.le_refl _) hW
    have e := htl.resolve_right z
    exact (h9 (by rw [e]; rfl) (by rw [e]; rfl)).mono fun o h2 hh => ⟨hh.1, by obtain ⟨W', n', q1, q2⟩ := hh.2; exact ⟨W', n', _, q1, q2⟩⟩
  intro q
  induction q with
  | zero =>
    intro j h C h1 h2 h3 hW
    have har := anM_r hT hn0 hn1 j h2
    have hno : ¬ 0 < anM s t node j := by omega
    refine g_iload_n rfl rfl ?_
    refine g_ifle rfl rfl (fun c1 => ?_) (fun c => absurd c (by omega))
    exact fin j h C h2 h3 hno hW
  | succ q ih =>
    intro j h C h1 h2 h3 hW
    have har := anM_r hT hn0 hn1 j h2
    by_cases hp : 0 < anM s t node j
    · have e1 : (30 * (t : Int) + anM s t node j).toNat = 30 * t + (anM s t node j).toNat := by omega
      refine g_iload_n rfl rfl ?_
      refine g_ifle rfl rfl (fun c => absurd c (by omega)) (fun c1 => ?_)
      refine g_aload_n rfl rfl ?_
      refine g_get (ci := 8) (kk := 19) rfl rfl (xF_ob hW) hW.b0 rfl ?_
      refine g_iload_n rfl rfl ?_
      refine g_iload_n rfl rfl ?_
      refine g_iast rfl (xF_a14 hW) hW.bk (by omega) ?_
      generalize hg_hh2 : hput h (m0 + 14) (eA 0 30 (va_up C ((j : Int)).toNat (anM s t node j))) = hh2
      have hW := xF_14 hW (j : Int).toNat (v := anM s t node j)
      rw [hg_hh2] at hW
      refine g_iinc (L' := [aR m0, aI node, aI ((j : Int) + 1), aI (anM s t node j), none, none, none]) rfl rfl (by omega) rfl ?_
      refine g_aload_n rfl rfl ?_
      refine g_get (ci := 8) (kk := 1) rfl rfl (xF_ob hW) hW.b0 rfl ?_
      refine g_aload_n rfl rfl ?_
      refine g_get (ci := 8) (kk := 11) rfl rfl (xF_ob hW) hW.b0 rfl ?_
      rw [show s.2 11 = 30 * (t : Int) from hb]
      refine g_iload_n rfl rfl ?_
      refine g_iadd rfl (by omega) ?_
      refine g_iald rfl (xF_a2 hW) (by omega) ?_
      rw [show (s.1 2) ((30 * (t : Int)) + (anM s t node j)).toNat = anM s t node (j + 1) from by rw [e1]; rfl]
      refine g_istore_n (L' := [aR m0, aI node, aI ((j : Int) + 1), aI (anM s t node (j + 1)), none, none, none]) rfl rfl ?_
      refine g_goto rfl rfl ?_
      refine ih (j + 1) _ _ (by omega) (fun i hi => ?_) (fun i hi => ?_) hW
      · by_cases e : i = j
        · rw [e]; exact hp
        · exact h2 i (by omega)
      · unfold va_up
        rw [Int.toNat_natCast]
        by_cases e : i = j
        · rw [if_pos e, e]
        · rw [if_neg e]; exact h3 i (by omega)
    · skip
      refine g_iload_n rfl rfl ?_
      refine g_ifle rfl rfl (fun c1 => ?_) (fun c => absurd c (by omega))
      exact fin j h C h2 h3 hp hW
theorem m_tell (hM : MOK s) (ht : t < 2) (hb : s.2 11 = 30 * (t : Int)) (hT : TI (mst s) t) (hW : WM B m0 h (xF s P W n C)) (node : Int) (hn0 : 0 < node) (hn1 : node < ((mst s).2.2.2.1 t)) : Cal d yMd_tell [aR m0, aI node] h (RV none (fun h2 => ∃ W' n' C', WM B m0 h2 (xF s P W' n' C') ∧ oF n'.toNat W' = pth (mst s) t node ∧ n' = (pth (mst s) t node).length)) := by
  show Go _ _ 0 [aR m0, aI node, none, none, none, none, none] [] _ _
  refine g_iconst (n := 0) rfl (by decide) ?_
  refine g_istore_n (L' := [aR m0, aI node, aI 0, none, none, none, none]) rfl rfl ?_
  refine g_iload_n rfl rfl ?_
  refine g_istore_n (L' := [aR m0, aI node, aI 0, aI node, none, none, none]) rfl rfl ?_
  exact te_1 (d := d) hM ht hb hT node hn0 (by omega) hn1 node.toNat 0 h C (by omega) (fun i hi => absurd hi (Nat.not_lt_zero _)) (fun i hi => absurd hi (Nat.not_lt_zero _)) hW
end Md7
