/-! The reference: a header, whole. -/
section Md10
variable {B h : AH} {m0 d t : Nat} {s : MS} {P W C : Nat → Int} {n : Int} {l : List Int}
theorem bdM_get (s : MS) {k j : Nat} (h : j < (bdM s k).length) : (bdM s k).getD j 0 = s.1 11 (2000 * k + j) := by
  unfold bdM at h ⊢
  rw [oF_len] at h
  exact oF_get h
theorem upl_0 {st : CS} (hT : TI st t) : ∀ (n : Nat) (a : Int), upl st t n a ≠ [] → ltr ((upl st t n a).getD 0 0) := by
  intro n
  induction n with
  | zero => intro a h; exact absurd rfl h
  | succ n ih =>
    intro a h
    by_cases hp : 0 < a ∧ a < (st.2.2.2.1 t)
    · have e : upl st t (n + 1) a = upl st t n ((st.2.1 (st.2.2.1 t a.toNat) 1)) ++ ((st.1 (2 * st.2.2.1 t a.toNat)) ++ (if n + 1 < 30 then [47] else [])) := by rw [upl, if_pos hp]
      rw [e, getD_app]
      have hn := (hT.n a.toNat (by omega) (by omega)).1
      have hn1 := hn.2.1
      by_cases z : upl st t n ((st.2.1 (st.2.2.1 t a.toNat) 1)) = []
      · rw [z, if_neg (by simp), List.length_nil, Nat.sub_zero, getD_app, if_pos (by omega)]
        exact hn.1 0 (by omega) (by omega)
      · rw [if_pos (List.length_pos_iff.mpr z)]
        exact ih _ z
    · exact absurd (upl_stop hp) h
theorem cutP_pos {st : CS} (hT : TI st t) {i : Nat} (h0 : 0 < i) (hi : i < (st.2.2.2.1 t)) : cutP (pth st t i) ≠ 0 := by
  intro z
  have hp := ffst_p (p := fun j : Nat => rat (pth st t i) (j : Int) = 47) _ _ (show ffst (fun j : Nat => rat (pth st t i) (j : Int) = 47) ((pth st t i).length - 1 - ((pth st t i).length - 101)) ((pth st t i).length - 101) ≠ -1 from by
    have z2 : ffst (fun j : Nat => rat (pth st t i) (j : Int) = 47) ((pth st t i).length - 1 - ((pth st t i).length - 101)) ((pth st t i).length - 101) = 0 := z
    omega)
  have z2 : ffst (fun j : Nat => rat (pth st t i) (j : Int) = 47) ((pth st t i).length - 1 - ((pth st t i).length - 101)) ((pth st t i).length - 101) = 0 := z
  rw [z2] at hp
  have h1 := (hT.n i h0 hi).1.2.1
  have hne : upl st t 30 (i : Int) ≠ [] := by
    intro q
    have e : upl st t (29 + 1) (i : Int) = upl st t 29 ((st.2.1 (st.2.2.1 t (i : Int).toNat) 1)) ++ ((st.1 (2 * st.2.2.1 t (i : Int).toNat)) ++ (if 29 + 1 < 30 then [47] else [])) := by rw [upl, if_pos ⟨by omega, by omega⟩]
    rw [show (29 + 1 : Nat) = 30 from rfl, q, Int.toNat_natCast] at e
    have e2 := congrArg List.length e
    rw [List.length_append, List.length_append, List.length_nil] at e2
    omega
  have hl := upl_0 hT 30 (i : Int) hne
  have hp2 : rat (pth st t i) 0 = 47 := hp
  have hlen : 0 < (pth st t i).length := List.length_pos_iff.mpr (hT.pne h0 hi)
  rw [rat_in (by omega) (by omega)] at hp2
  have e3 : (pth st t i).getD (0 : Int).toNat 0 = (upl st t 30 (i : Int)).getD 0 0 := by
    rw [show (0 : Int).toNat = 0 from rfl]
    unfold pth
    rw [getD_app, if_pos (List.length_pos_iff.mpr hne)]
  rw [e3] at hp2
  exact hl.2.2 hp2
theorem PL.ppx (hP : PL P l) {p : List Int} {att c sec : Int} (hw : oF n.toNat W = p) (hn : n = p.length) (h0 : 0 ≤ att) (hl : att + 512 ≤ l.length) (hc : (p.length ≤ 100 ∧ c = 0 ∧ sec = 0 ∧ cutW p = -1) ∨ (0 < c ∧ c ≤ 155 ∧ sec = c + 1 ∧ cutW p = c ∧ c < p.length ∧ (p.length : Int) ≤ c + 101)) : PL (cyW W (cyW W P att sec (n - sec)) (att + 345) 0 c) (pph l att p) := by
  have hWp : ∀ j : Nat, j < p.length → W j = p.getD j 0 := fun j hj => by
    rw [← hw, oF_get (by omega)]
  intro j hj
  rw [pph_len] at hj
  unfold pph
  obtain ⟨c', hc'⟩ : ∃ c', cutW p = c' := ⟨_, rfl⟩
  rw [hc']
  unfold pp2
  rw [oF_get (by rw [pp1_len]; exact hj)]
  unfold pp1
  rw [oF_get hj]
  unfold cyW
  by_cases e1 : att ≤ (j : Int) ∧ (j : Int) < att + (p.length - c' - 1)
  · rw [if_pos e1, if_neg (by omega), if_pos (by omega), hWp _ (by omega)]
    congr 1
    omega
  · rw [if_neg e1]
    by_cases e2 : att + 345 ≤ (j : Int) ∧ (j : Int) < att + 345 + c'
    · rw [if_pos e2, if_pos (by omega), hWp _ (by omega)]
      congr 1
      omega
    · rw [if_neg e2, if_neg (by omega), if_neg (by omega)]
      exact hP j hj
theorem m_hdt0 (hM : MOK s) (ht : t < 2) (hb : s.2 11 = 30 * (t : Int)) (hT : TI (mst s) t) {PB W1 C1 : Nat → Int} {n1 : Int} {X1 : List Int} (hW : WM B m0 h (xF s PB W1 n1 C1)) (hps : PL PB X1) (hx1 : X1.length = l.length) (hl : l.length = (s.2 13).toNat) {i : Nat} (h0 : 0 < i) (hi : i < ((mst s).2.2.2.1 t)) (hte : tel (mst s) t i) (b : Int) (hb0 : 0 ≤ b) (hbl : (b + 1) * 512 ≤ l.length) (hkd : ((mst s).2.1 ((mst s).2.2.1 t i) 0) = 0) (hX1 : pph l (b * 512) (pth (mst s) t i) = X1) (c sec x5 : Int) : Go (d + 1) yMd_head 101 [aR m0, aI (b * 512), aI ((30 * (t : Int)) + (i : Int)), aI c, aI sec, aI x5] [] h (RV none (fun h2 => ∃ P' W' n' C', WM B m0 h2 (xF s P' W' n' C') ∧ PL P' (hdrL (mst s) t i l b))) := by
  have hc := hT.c
  have hm := hM.2.2.2
  have hv := hT.v i hi
  have hbk := hT.b i hi
  have hsz := hM.1 (30 * t + i) (by omega)
  have ebd : ((mst s).1 (2 * (mst s).2.2.1 t i + 1)) = bdM s (30 * t + i) := mst_bd s ht (by omega)
  have hbl2 : (bdM s (30 * t + i)).length = (s.1 7 (30 * t + i)).toNat := oF_len _ _
  clear hbk
  have hpf := pln_pth (mst s) t (((mst s).2.1 ((mst s).2.2.1 t i) 2))
  have hte2 := hte.2
  have e1 : (((30 * (t : Int)) + (i : Int))).toNat = 30 * t + i := by omega
  have hk1 : s.1 1 (30 * t + i) = 0 := hkd
  have hcln : ((cln (mst s) t i : Nat) : Int) = 0 := by
    unfold cln
    rw [if_neg (by rw [hkd]; decide)]
    rfl
  refine g_aload_n rfl rfl ?_
  refine g_iload_n rfl rfl ?_
  refine g_bipush (n := 100) rfl (by decide) ?_
  refine g_iadd rfl (by omega) ?_
  refine g_bipush (n := 7) rfl (by decide) ?_
  refine g_aload_n rfl rfl ?_
  refine g_get (ci := 8) (kk := 3) rfl rfl (xF_ob hW) hW.b0 rfl ?_
  refine g_iload_n rfl rfl ?_
  refine g_iald rfl (xF_a4 hW) (by omega) ?_
  rw [show (s.1 4) (((30 * (t : Int)) + (i : Int))).toNat = ((mst s).2.1 ((mst s).2.2.1 t i) 3) from by rw [e1]; rfl]
  refine g_i2l rfl ?_
  refine g_Vn (z := yMd_octal) (e := 1) (A := [aL (((mst s).2.1 ((mst s).2.2.1 t i) 3)), aI 7, aI ((b * 512) + 100)]) (rest := [])  rfl rfl rfl rfl rfl rfl (by omega) (xF_ob hW) hW.b0 (m_octal hW (b * 512 + 100) (((mst s).2.1 ((mst s).2.2.1 t i) 3)) 7 (by omega) (by omega) (by omega) (by omega) (by omega)) ?_
  intro hh1 hW
  have hp2 : PL (octF PB (b * 512 + 100) 7 (((mst s).2.1 ((mst s).2.2.1 t i) 3))) (poct X1 (b * 512 + 100) 7 (((mst s).2.1 ((mst s).2.2.1 t i) 3))) := hps.oct (by omega) (by omega)
  have hx2 : (poct X1 (b * 512 + 100) 7 (((mst s).2.1 ((mst s).2.2.1 t i) 3))).length = l.length := (poct_len _ _ _ _).trans hx1
  generalize hPP2 : octF PB (b * 512 + 100) 7 (((mst s).2.1 ((mst s).2.2.1 t i) 3)) = PP2 at hW hp2
  generalize hX2 : poct X1 (b * 512 + 100) 7 (((mst s).2.1 ((mst s).2.2.1 t i) 3)) = X2 at hp2 hx2
  clear hps hx1
  refine g_aload_n rfl rfl ?_
  refine g_iload_n rfl rfl ?_
  refine g_bipush (n := 108) rfl (by decide) ?_
  refine g_iadd rfl (by omega) ?_
  refine g_bipush (n := 7) rfl (by decide) ?_
  refine g_aload_n rfl rfl ?_
  refine g_get (ci := 8) (kk := 4) rfl rfl (xF_ob hW) hW.b0 rfl ?_
  refine g_iload_n rfl rfl ?_
  refine g_iald rfl (xF_a5 hW) (by omega) ?_
  rw [show (s.1 5) (((30 * (t : Int)) + (i : Int))).toNat = ((mst s).2.1 ((mst s).2.2.1 t i) 4) from by rw [e1]; rfl]
  refine g_i2l rfl ?_
  refine g_Vn (z := yMd_octal) (e := 1) (A := [aL (((mst s).2.1 ((mst s).2.2.1 t i) 4)), aI 7, aI ((b * 512) + 108)]) (rest := [])  rfl rfl rfl rfl rfl rfl (by omega) (xF_ob hW) hW.b0 (m_octal hW (b * 512 + 108) (((mst s).2.1 ((mst s).2.2.1 t i) 4)) 7 (by omega) (by omega) (by omega) (by omega) (by omega)) ?_
  intro hh2 hW
  have hp3 : PL (octF PP2 (b * 512 + 108) 7 (((mst s).2.1 ((mst s).2.2.1 t i) 4))) (poct X2 (b * 512 + 108) 7 (((mst s).2.1 ((mst s).2.2.1 t i) 4))) := hp2.oct (by omega) (by omega)
  have hx3 : (poct X2 (b * 512 + 108) 7 (((mst s).2.1 ((mst s).2.2.1 t i) 4))).length = l.length := (poct_len _ _ _ _).trans hx2
  generalize hPP3 : octF PP2 (b * 512 + 108) 7 (((mst s).2.1 ((mst s).2.2.1 t i) 4)) = PP3 at hW hp3
  generalize hX3 : poct X2 (b * 512 + 108) 7 (((mst s).2.1 ((mst s).2.2.1 t i) 4)) = X3 at hp3 hx3
  clear hp2 hx2
  refine g_aload_n rfl rfl ?_
  refine g_iload_n rfl rfl ?_
  refine g_bipush (n := 116) rfl (by decide) ?_
  refine g_iadd rfl (by omega) ?_
  refine g_bipush (n := 7) rfl (by decide) ?_
  refine g_lconst (m := 0) rfl rfl ?_
  refine g_Vn (z := yMd_octal) (e := 1) (A := [aL 0, aI 7, aI ((b * 512) + 116)]) (rest := [])  rfl rfl rfl rfl rfl rfl (by omega) (xF_ob hW) hW.b0 (m_octal hW (b * 512 + 116) (0) 7 (by omega) (by omega) (by omega) (by omega) (by omega)) ?_
  intro hh3 hW
  have hp4 : PL (octF PP3 (b * 512 + 116) 7 (0)) (poct X3 (b * 512 + 116) 7 (0)) := hp3.oct (by omega) (by omega)
  have hx4 : (poct X3 (b * 512 + 116) 7 (0)).length = l.length := (poct_len _ _ _ _).trans hx3
  generalize hPP4 : octF PP3 (b * 512 + 116) 7 (0) = PP4 at hW hp4
  generalize hX4 : poct X3 (b * 512 + 116) 7 (0) = X4 at hp4 hx4
  clear hp3 hx3
  refine g_aload_n rfl rfl ?_
  refine g_iload_n rfl rfl ?_
  refine g_bipush (n := 124) rfl (by decide) ?_
  refine g_iadd rfl (by omega) ?_
  refine g_bipush (n := 11) rfl (by decide) ?_
  refine g_aload_n rfl rfl ?_
  refine g_get (ci := 8) (kk := 0) rfl rfl (xF_ob hW) hW.b0 rfl ?_
  refine g_iload_n rfl rfl ?_
  refine g_iald rfl (xF_a1 hW) (by omega) ?_
  rw [show (s.1 1) (((30 * (t : Int)) + (i : Int))).toNat = s.1 1 (30 * t + i) from by rw [e1]]
  refine g_iconst (n := 1) rfl (by decide) ?_
  refine g_icmpne rfl rfl (fun c4 => ?_) (fun c => absurd c (by omega))
  refine g_lconst (m := 0) rfl rfl ?_
  refine g_Vn (z := yMd_octal) (e := 1) (A := [aL 0, aI 11, aI ((b * 512) + 124)]) (rest := [])  rfl rfl rfl rfl rfl rfl (by omega) (xF_ob hW) hW.b0 (m_octal hW (b * 512 + 124) (0) 11 (by omega) (by omega) (by omega) (by omega) (by omega)) ?_
  intro hh5 hW
  have hp5 : PL (octF PP4 (b * 512 + 124) 11 (0)) (poct X4 (b * 512 + 124) 11 (0)) := hp4.oct (by omega) (by omega)
  have hx5 : (poct X4 (b * 512 + 124) 11 (0)).length = l.length := (poct_len _ _ _ _).trans hx4
  generalize hPP5 : octF PP4 (b * 512 + 124) 11 (0) = PP5 at hW hp5
  generalize hX5 : poct X4 (b * 512 + 124) 11 (0) = X5 at hp5 hx5
  clear hp4 hx4
  refine g_aload_n rfl rfl ?_
  refine g_iload_n rfl rfl ?_
  refine g_sipush (n := 136) rfl (by decide) ?_
  refine g_iadd rfl (by omega) ?_
  refine g_bipush (n := 11) rfl (by decide) ?_
  refine g_aload_n rfl rfl ?_
  refine g_get (ci := 8) (kk := 5) rfl rfl (xF_ob hW) hW.b0 rfl ?_
  refine g_iload_n rfl rfl ?_
  refine g_iald rfl (xF_a6 hW) (by omega) ?_
  rw [show (s.1 6) (((30 * (t : Int)) + (i : Int))).toNat = ((mst s).2.1 ((mst s).2.2.1 t i) 5) from by rw [e1]; rfl]
  refine g_i2l rfl ?_
  refine g_Vn (z := yMd_octal) (e := 1) (A := [aL (((mst s).2.1 ((mst s).2.2.1 t i) 5)), aI 11, aI ((b * 512) + 136)]) (rest := [])  rfl rfl rfl rfl rfl rfl (by omega) (xF_ob hW) hW.b0 (m_octal hW (b * 512 + 136) (((mst s).2.1 ((mst s).2.2.1 t i) 5)) 11 (by omega) (by omega) (by omega) (by omega) (by omega)) ?_
  intro hh6 hW
  have hp6 : PL (octF PP5 (b * 512 + 136) 11 (((mst s).2.1 ((mst s).2.2.1 t i) 5))) (poct X5 (b * 512 + 136) 11 (((mst s).2.1 ((mst s).2.2.1 t i) 5))) := hp5.oct (by omega) (by omega)
  have hx6 : (poct X5 (b * 512 + 136) 11 (((mst s).2.1 ((mst s).2.2.1 t i) 5))).length = l.length := (poct_len _ _ _ _).trans hx5
  generalize hPP6 : octF PP5 (b * 512 + 136) 11 (((mst s).2.1 ((mst s).2.2.1 t i) 5)) = PP6 at hW hp6
  generalize hX6 : poct X5 (b * 512 + 136) 11 (((mst s).2.1 ((mst s).2.2.1 t i) 5)) = X6 at hp6 hx6
  clear hp5 hx5
  refine g_aload_n rfl rfl ?_
  refine g_get (ci := 8) (kk := 12) rfl rfl (xF_ob hW) hW.b0 rfl ?_
  refine g_iload_n rfl rfl ?_
  refine g_sipush (n := 156) rfl (by decide) ?_
  refine g_iadd rfl (by omega) ?_
  refine g_aload_n rfl rfl ?_
  refine g_get (ci := 8) (kk := 0) rfl rfl (xF_ob hW) hW.b0 rfl ?_
  refine g_iload_n rfl rfl ?_
  refine g_iald rfl (xF_a1 hW) (by omega) ?_
  rw [show (s.1 1) (((30 * (t : Int)) + (i : Int))).toNat = s.1 1 (30 * t + i) from by rw [e1]]
  refine g_ifne rfl rfl (fun c => absurd c (by omega)) (fun c7 => ?_)
  refine g_bipush (n := 53) rfl (by decide) ?_
  refine g_goto rfl rfl ?_
  refine g_i2b rfl ?_
  refine g_bast rfl (xF_a12 hW) hW.bk (by omega) ?_
  generalize hg_hh8 : hput hh6 (m0 + 12) (eA 1 10240 (va_up PP6 ((b * 512) + 156).toNat (a8 (a8 53)))) = hh8
  have hW := xF_12 hW (b * 512 + 156).toNat (a8_r (a8 53))
  rw [a8_id (x := 53) (by omega) (by omega)] at hW hg_hh8
  rw [hg_hh8] at hW
  have hp7 : PL (va_up PP6 (b * 512 + 156).toNat (a8 53)) (rput X6 (b * 512 + 156) 53) := hp6.put (by omega) (by omega)
  have hx7 : (rput X6 (b * 512 + 156) 53).length = l.length := (rput_len _ _ _).trans hx6
  generalize hPP7 : va_up PP6 (b * 512 + 156).toNat (a8 53) = PP7 at hW hp7
  generalize hX7 : rput X6 (b * 512 + 156) 53 = X7 at hp7 hx7
  clear hp6 hx6
  refine g_aload_n rfl rfl ?_
  refine g_get (ci := 8) (kk := 0) rfl rfl (xF_ob hW) hW.b0 rfl ?_
  refine g_iload_n rfl rfl ?_
  refine g_iald rfl (xF_a1 hW) (by omega) ?_
  rw [show (s.1 1) (((30 * (t : Int)) + (i : Int))).toNat = s.1 1 (30 * t + i) from by rw [e1]]
  refine g_iconst (n := 2) rfl (by decide) ?_
  refine g_icmpne rfl rfl (fun c9 => ?_) (fun c => absurd c (by omega))
  refine g_aload_n rfl rfl ?_
  refine g_get (ci := 8) (kk := 0) rfl rfl (xF_ob hW) hW.b0 rfl ?_
  refine g_iload_n rfl rfl ?_
  refine g_iald rfl (xF_a1 hW) (by omega) ?_
  rw [show (s.1 1) (((30 * (t : Int)) + (i : Int))).toNat = s.1 1 (30 * t + i) from by rw [e1]]
  refine g_iconst (n := 3) rfl (by decide) ?_
  refine g_icmpne rfl rfl (fun c10 => ?_) (fun c => absurd c (by omega))
  refine g_iconst (n := 0) rfl (by decide) ?_
  refine g_istore (L' := [aR m0, aI (b * 512), aI (((30 * (t : Int)) + (i : Int))), aI c, aI sec, aI 0]) rfl rfl ?_
  refine hMk (d := d) (Q := RV none (fun h2 => ∃ P' W' n' C', WM B m0 h2 (xF s P' W' n' C') ∧ PL P' (hdrL (mst s) t i l b))) (b * 512) ((30 * (t : Int)) + (i : Int)) c (sec) PP7 (by omega) (by omega) (fun h hW => ?_) 8 0 _ (by omega) (by omega) (by omega) (by rw [cy_0]; exact hW)
  have hp8 : PL (cyW mkf PP7 (b * 512 + 257) 0 8) (pmrk X7 (b * 512 + 257)) := fun j hj => by
    rw [pmrk_len] at hj
    unfold pmrk
    rw [oF_get hj]
    unfold cyW
    by_cases z : b * 512 + 257 ≤ (j : Int) ∧ (j : Int) < b * 512 + 257 + 8
    · rw [if_pos z, if_pos z]
      congr 1
      omega
    · rw [if_neg z, if_neg z]
      exact hp7 j hj
  have hx8 : (pmrk X7 (b * 512 + 257)).length = l.length := (pmrk_len _ _).trans hx7
  generalize hPP8 : cyW mkf PP7 (b * 512 + 257) 0 8 = PP8 at hW hp8
  generalize hX8 : pmrk X7 (b * 512 + 257) = X8 at hp8 hx8
  clear hp7 hx7
  refine g_aload_n rfl rfl ?_
  refine g_iload_n rfl rfl ?_
  refine g_sipush (n := 329) rfl (by decide) ?_
  refine g_iadd rfl (by omega) ?_
  refine g_bipush (n := 7) rfl (by decide) ?_
  refine g_lconst (m := 0) rfl rfl ?_
  refine g_Vn (z := yMd_octal) (e := 1) (A := [aL 0, aI 7, aI ((b * 512) + 329)]) (rest := [])  rfl rfl rfl rfl rfl rfl (by omega) (xF_ob hW) hW.b0 (m_octal hW (b * 512 + 329) (0) 7 (by omega) (by omega) (by omega) (by omega) (by omega)) ?_
  intro hh1 hW
  have hp9 : PL (octF PP8 (b * 512 + 329) 7 (0)) (poct X8 (b * 512 + 329) 7 (0)) := hp8.oct (by omega) (by omega)
  have hx9 : (poct X8 (b * 512 + 329) 7 (0)).length = l.length := (poct_len _ _ _ _).trans hx8
  generalize hPP9 : octF PP8 (b * 512 + 329) 7 (0) = PP9 at hW hp9
  generalize hX9 : poct X8 (b * 512 + 329) 7 (0) = X9 at hp9 hx9
  clear hp8 hx8
  refine g_aload_n rfl rfl ?_
  refine g_iload_n rfl rfl ?_
  refine g_sipush (n := 337) rfl (by decide) ?_
  refine g_iadd rfl (by omega) ?_
  refine g_bipush (n := 7) rfl (by decide) ?_
  refine g_lconst (m := 0) rfl rfl ?_
  refine g_Vn (z := yMd_octal) (e := 1) (A := [aL 0, aI 7, aI ((b * 512) + 337)]) (rest := [])  rfl rfl rfl rfl rfl rfl (by omega) (xF_ob hW) hW.b0 (m_octal hW (b * 512 + 337) (0) 7 (by omega) (by omega) (by omega) (by omega) (by omega)) ?_
  intro hh2 hW
  have hp10 : PL (octF PP9 (b * 512 + 337) 7 (0)) (poct X9 (b * 512 + 337) 7 (0)) := hp9.oct (by omega) (by omega)
  have hx10 : (poct X9 (b * 512 + 337) 7 (0)).length = l.length := (poct_len _ _ _ _).trans hx9
  generalize hPP10 : octF PP9 (b * 512 + 337) 7 (0) = PP10 at hW hp10
  generalize hX10 : poct X9 (b * 512 + 337) 7 (0) = X10 at hp10 hx10
  clear hp9 hx9
  refine g_aload_n rfl rfl ?_
  refine g_iload_n rfl rfl ?_
  refine g_sipush (n := 148) rfl (by decide) ?_
  refine g_iadd rfl (by omega) ?_
  refine g_bipush (n := 6) rfl (by decide) ?_
  refine g_aload_n rfl rfl ?_
  refine g_iload_n rfl rfl ?_
  refine g_V (z := yMd_sum) (e := 1) (A := [aI (b * 512)]) (rest := [aI 6, aI ((b * 512) + 148), aR m0]) (v := aI (sums X10 b 512)) (P := fun h2 => h2 = hh2) rfl rfl rfl rfl rfl rfl (by omega) (xF_ob hW) hW.b0 ((by have k9 := m_sum (s := xF s PP10 W1 n1 C1) (d := d + 1 - 1) hM hW b hb0 (show b * 512 + 512 ≤ s.2 13 by omega); rw [hp10.pg (by omega)] at k9; exact k9)) ?_
  intro hh9 he9
  rw [he9]
  clear he9 hh9
  refine g_i2l rfl ?_
  have hs1 := sums_r X10 b 512
  have hs2 := sums_nn (l := X10) (b := b) hb0 512 (by omega)
  refine g_Vn (z := yMd_octal) (e := 1) (A := [aL (sums X10 b 512), aI 6, aI ((b * 512) + 148)]) (rest := [])  rfl rfl rfl rfl rfl rfl (by omega) (xF_ob hW) hW.b0 (m_octal hW (b * 512 + 148) (sums X10 b 512) 6 (by omega) (by omega) (by omega) (by omega) (by omega)) ?_
  intro hh3 hW
  have hp11 : PL (octF PP10 (b * 512 + 148) 6 (sums X10 b 512)) (poct X10 (b * 512 + 148) 6 (sums X10 b 512)) := hp10.oct (by omega) (by omega)
  have hx11 : (poct X10 (b * 512 + 148) 6 (sums X10 b 512)).length = l.length := (poct_len _ _ _ _).trans hx10
  generalize hPP11 : octF PP10 (b * 512 + 148) 6 (sums X10 b 512) = PP11 at hW hp11
  generalize hX11 : poct X10 (b * 512 + 148) 6 (sums X10 b 512) = X11 at hp11 hx11
  clear hp10 hx10
  refine g_aload_n rfl rfl ?_
  refine g_get (ci := 8) (kk := 12) rfl rfl (xF_ob hW) hW.b0 rfl ?_
  refine g_iload_n rfl rfl ?_
  refine g_sipush (n := 155) rfl (by decide) ?_
  refine g_iadd rfl (by omega) ?_
  refine g_bipush (n := 32) rfl (by decide) ?_
  refine g_bast rfl (xF_a12 hW) hW.bk (by omega) ?_
  generalize hg_hh4 : hput hh3 (m0 + 12) (eA 1 10240 (va_up PP11 ((b * 512) + 155).toNat (a8 32))) = hh4
  have hW := xF_12 hW (b * 512 + 155).toNat (a8_r 32)
  rw [hg_hh4] at hW
  have hp12 : PL (va_up PP11 (b * 512 + 155).toNat (a8 32)) (rput X11 (b * 512 + 155) 32) := hp11.put (by omega) (by omega)
  have hx12 : (rput X11 (b * 512 + 155) 32).length = l.length := (rput_len _ _ _).trans hx11
  generalize hPP12 : va_up PP11 (b * 512 + 155).toNat (a8 32) = PP12 at hW hp12
  generalize hX12 : rput X11 (b * 512 + 155) 32 = X12 at hp12 hx12
  clear hp11 hx11
  have e9 : hdrL (mst s) t i l b = X12 := by
    unfold hdrL pchk hd3
    rw [if_neg (by omega), if_neg (by omega)]
    unfold hd2 hd1
    rw [hkd, show typK 0 = 53 from rfl, hcln, hX1, hX2, hX3, hX4, hX5, hX6, hX7, hX8, hX9, hX10, hX11, hX12]
  exact r_v rfl rfl ⟨_, _, _, _, hW, by rw [e9]; exact hp12⟩
theorem m_hdt1 (hM : MOK s) (ht : t < 2) (hb : s.2 11 = 30 * (t : Int)) (hT : TI (mst s) t) {PB W1 C1 : Nat → Int} {n1 : Int} {X1 : List Int} (hW : WM B m0 h (xF s PB W1 n1 C1)) (hps : PL PB X1) (hx1 : X1.length = l.length) (hl : l.length = (s.2 13).toNat) {i : Nat} (h0 : 0 < i) (hi : i < ((mst s).2.2.2.1 t)) (hte : tel (mst s) t i) (b : Int) (hb0 : 0 ≤ b) (hbl : (b + 1) * 512 ≤ l.length) (hkd : ((mst s).2.1 ((mst s).2.2.1 t i) 0) = 1) (hX1 : pph l (b * 512) (pth (mst s) t i) = X1) (c sec x5 : Int) : Go (d + 1) yMd_head 101 [aR m0, aI (b * 512), aI ((30 * (t : Int)) + (i : Int)), aI c, aI sec, aI x5] [] h (RV none (fun h2 => ∃ P' W' n' C', WM B m0 h2 (xF s P' W' n' C') ∧ PL P' (hdrL (mst s) t i l b))) := by
  have hc := hT.c
  have hm := hM.2.2.2
  have hv := hT.v i hi
  have hbk := hT.b i hi
  have hsz := hM.1 (30 * t + i) (by omega)
  have ebd : ((mst s).1 (2 * (mst s).2.2.1 t i + 1)) = bdM s (30 * t + i) := mst_bd s ht (by omega)
  have hbl2 : (bdM s (30 * t + i)).length = (s.1 7 (30 * t + i)).toNat := oF_len _ _
  clear hbk
  have hpf := pln_pth (mst s) t (((mst s).2.1 ((mst s).2.2.1 t i) 2))
  have hte2 := hte.2
  have e1 : (((30 * (t : Int)) + (i : Int))).toNat = 30 * t + i := by omega
  have hk1 : s.1 1 (30 * t + i) = 1 := hkd
  have hcln : ((cln (mst s) t i : Nat) : Int) = s.1 7 (30 * t + i) := by
    unfold cln
    rw [if_pos hkd]
    rw [ebd, hbl2]; omega
  refine g_aload_n rfl rfl ?_
  refine g_iload_n rfl rfl ?_
  refine g_bipush (n := 100) rfl (by decide) ?_
  refine g_iadd rfl (by omega) ?_
  refine g_bipush (n := 7) rfl (by decide) ?_
  refine g_aload_n rfl rfl ?_
  refine g_get (ci := 8) (kk := 3) rfl rfl (xF_ob hW) hW.b0 rfl ?_
  refine g_iload_n rfl rfl ?_
  refine g_iald rfl (xF_a4 hW) (by omega) ?_
  rw [show (s.1 4) (((30 * (t : Int)) + (i : Int))).toNat = ((mst s).2.1 ((mst s).2.2.1 t i) 3) from by rw [e1]; rfl]
  refine g_i2l rfl ?_
  refine g_Vn (z := yMd_octal) (e := 1) (A := [aL (((mst s).2.1 ((mst s).2.2.1 t i) 3)), aI 7, aI ((b * 512) + 100)]) (rest := [])  rfl rfl rfl rfl rfl rfl (by omega) (xF_ob hW) hW.b0 (m_octal hW (b * 512 + 100) (((mst s).2.1 ((mst s).2.2.1 t i) 3)) 7 (by omega) (by omega) (by omega) (by omega) (by omega)) ?_
  intro hh1 hW
  have hp2 : PL (octF PB (b * 512 + 100) 7 (((mst s).2.1 ((mst s).2.2.1 t i) 3))) (poct X1 (b * 512 + 100) 7 (((mst s).2.1 ((mst s).2.2.1 t i) 3))) := hps.oct (by omega) (by omega)
  have hx2 : (poct X1 (b * 512 + 100) 7 (((mst s).2.1 ((mst s).2.2.1 t i) 3))).length = l.length := (poct_len _ _ _ _).trans hx1
  generalize hPP2 : octF PB (b * 512 + 100) 7 (((mst s).2.1 ((mst s).2.2.1 t i) 3)) = PP2 at hW hp2
  generalize hX2 : poct X1 (b * 512 + 100) 7 (((mst s).2.1 ((mst s).2.2.1 t i) 3)) = X2 at hp2 hx2
  clear hps hx1
  refine g_aload_n rfl rfl ?_
  refine g_iload_n rfl rfl ?_
  refine g_bipush (n := 108) rfl (by decide) ?_
  refine g_iadd rfl (by omega) ?_
  refine g_bipush (n := 7) rfl (by decide) ?_
  refine g_aload_n rfl rfl ?_
  refine g_get (ci := 8) (kk := 4) rfl rfl (xF_ob hW) hW.b0 rfl ?_
  refine g_iload_n rfl rfl ?_
  refine g_iald rfl (xF_a5 hW) (by omega) ?_
  rw [show (s.1 5) (((30 * (t : Int)) + (i : Int))).toNat = ((mst s).2.1 ((mst s).2.2.1 t i) 4) from by rw [e1]; rfl]
  refine g_i2l rfl ?_
  refine g_Vn (z := yMd_octal) (e := 1) (A := [aL (((mst s).2.1 ((mst s).2.2.1 t i) 4)), aI 7, aI ((b * 512) + 108)]) (rest := [])  rfl rfl rfl rfl rfl rfl (by omega) (xF_ob hW) hW.b0 (m_octal hW (b * 512 + 108) (((mst s).2.1 ((mst s).2.2.1 t i) 4)) 7 (by omega) (by omega) (by omega) (by omega) (by omega)) ?_
  intro hh2 hW
  have hp3 : PL (octF PP2 (b * 512 + 108) 7 (((mst s).2.1 ((mst s).2.2.1 t i) 4))) (poct X2 (b * 512 + 108) 7 (((mst s).2.1 ((mst s).2.2.1 t i) 4))) := hp2.oct (by omega) (by omega)
  have hx3 : (poct X2 (b * 512 + 108) 7 (((mst s).2.1 ((mst s).2.2.1 t i) 4))).length = l.length := (poct_len _ _ _ _).trans hx2
  generalize hPP3 : octF PP2 (b * 512 + 108) 7 (((mst s).2.1 ((mst s).2.2.1 t i) 4)) = PP3 at hW hp3
  generalize hX3 : poct X2 (b * 512 + 108) 7 (((mst s).2.1 ((mst s).2.2.1 t i) 4)) = X3 at hp3 hx3
  clear hp2 hx2
  refine g_aload_n rfl rfl ?_
  refine g_iload_n rfl rfl ?_
  refine g_bipush (n := 116) rfl (by decide) ?_
  refine g_iadd rfl (by omega) ?_
  refine g_bipush (n := 7) rfl (by decide) ?_
  refine g_lconst (m := 0) rfl rfl ?_
  refine g_Vn (z := yMd_octal) (e := 1) (A := [aL 0, aI 7, aI ((b * 512) + 116)]) (rest := [])  rfl rfl rfl rfl rfl rfl (by omega) (xF_ob hW) hW.b0 (m_octal hW (b * 512 + 116) (0) 7 (by omega) (by omega) (by omega) (by omega) (by omega)) ?_
  intro hh3 hW
  have hp4 : PL (octF PP3 (b * 512 + 116) 7 (0)) (poct X3 (b * 512 + 116) 7 (0)) := hp3.oct (by omega) (by omega)
  have hx4 : (poct X3 (b * 512 + 116) 7 (0)).length = l.length := (poct_len _ _ _ _).trans hx3
  generalize hPP4 : octF PP3 (b * 512 + 116) 7 (0) = PP4 at hW hp4
  generalize hX4 : poct X3 (b * 512 + 116) 7 (0) = X4 at hp4 hx4
  clear hp3 hx3
  refine g_aload_n rfl rfl ?_
  refine g_iload_n rfl rfl ?_
  refine g_bipush (n := 124) rfl (by decide) ?_
  refine g_iadd rfl (by omega) ?_
  refine g_bipush (n := 11) rfl (by decide) ?_
  refine g_aload_n rfl rfl ?_
  refine g_get (ci := 8) (kk := 0) rfl rfl (xF_ob hW) hW.b0 rfl ?_
  refine g_iload_n rfl rfl ?_
  refine g_iald rfl (xF_a1 hW) (by omega) ?_
  rw [show (s.1 1) (((30 * (t : Int)) + (i : Int))).toNat = s.1 1 (30 * t + i) from by rw [e1]]
  refine g_iconst (n := 1) rfl (by decide) ?_
  refine g_icmpne rfl rfl (fun c => absurd c (by omega)) (fun c4 => ?_)
  refine g_aload_n rfl rfl ?_
  refine g_get (ci := 8) (kk := 6) rfl rfl (xF_ob hW) hW.b0 rfl ?_
  refine g_iload_n rfl rfl ?_
  refine g_iald rfl (xF_a7 hW) (by omega) ?_
  rw [show (s.1 7) (((30 * (t : Int)) + (i : Int))).toNat = s.1 7 (30 * t + i) from by rw [e1]]
  refine g_i2l rfl ?_
  refine g_goto rfl rfl ?_
  refine g_Vn (z := yMd_octal) (e := 1) (A := [aL (s.1 7 (30 * t + i)), aI 11, aI ((b * 512) + 124)]) (rest := [])  rfl rfl rfl rfl rfl rfl (by omega) (xF_ob hW) hW.b0 (m_octal hW (b * 512 + 124) (s.1 7 (30 * t + i)) 11 (by omega) (by omega) (by omega) (by omega) (by omega)) ?_
  intro hh5 hW
  have hp5 : PL (octF PP4 (b * 512 + 124) 11 (s.1 7 (30 * t + i))) (poct X4 (b * 512 + 124) 11 (s.1 7 (30 * t + i))) := hp4.oct (by omega) (by omega)
  have hx5 : (poct X4 (b * 512 + 124) 11 (s.1 7 (30 * t + i))).length = l.length := (poct_len _ _ _ _).trans hx4
  generalize hPP5 : octF PP4 (b * 512 + 124) 11 (s.1 7 (30 * t + i)) = PP5 at hW hp5
  generalize hX5 : poct X4 (b * 512 + 124) 11 (s.1 7 (30 * t + i)) = X5 at hp5 hx5
  clear hp4 hx4
  refine g_aload_n rfl rfl ?_
  refine g_iload_n rfl rfl ?_
  refine g_sipush (n := 136) rfl (by decide) ?_
  refine g_iadd rfl (by omega) ?_
  refine g_bipush (n := 11) rfl (by decide) ?_
  refine g_aload_n rfl rfl ?_
  refine g_get (ci := 8) (kk := 5) rfl rfl (xF_ob hW) hW.b0 rfl ?_
  refine g_iload_n rfl rfl ?_
  refine g_iald rfl (xF_a6 hW) (by omega) ?_
  rw [show (s.1 6) (((30 * (t : Int)) + (i : Int))).toNat = ((mst s).2.1 ((mst s).2.2.1 t i) 5) from by rw [e1]; rfl]
  refine g_i2l rfl ?_
  refine g_Vn (z := yMd_octal) (e := 1) (A := [aL (((mst s).2.1 ((mst s).2.2.1 t i) 5)), aI 11, aI ((b * 512) + 136)]) (rest := [])  rfl rfl rfl rfl rfl rfl (by omega) (xF_ob hW) hW.b0 (m_octal hW (b * 512 + 136) (((mst s).2.1 ((mst s).2.2.1 t i) 5)) 11 (by omega) (by omega) (by omega) (by omega) (by omega)) ?_
  intro hh6 hW
  have hp6 : PL (octF PP5 (b * 512 + 136) 11 (((mst s).2.1 ((mst s).2.2.1 t i) 5))) (poct X5 (b * 512 + 136) 11 (((mst s).2.1 ((mst s).2.2.1 t i) 5))) := hp5.oct (by omega) (by omega)
  have hx6 : (poct X5 (b * 512 + 136) 11 (((mst s).2.1 ((mst s).2.2.1 t i) 5))).length = l.length := (poct_len _ _ _ _).trans hx5
  generalize hPP6 : octF PP5 (b * 512 + 136) 11 (((mst s).2.1 ((mst s).2.2.1 t i) 5)) = PP6 at hW hp6
  generalize hX6 : poct X5 (b * 512 + 136) 11 (((mst s).2.1 ((mst s).2.2.1 t i) 5)) = X6 at hp6 hx6
  clear hp5 hx5
  refine g_aload_n rfl rfl ?_
  refine g_get (ci := 8) (kk := 12) rfl rfl (xF_ob hW) hW.b0 rfl ?_
  refine g_iload_n rfl rfl ?_
  refine g_sipush (n := 156) rfl (by decide) ?_
  refine g_iadd rfl (by omega) ?_
  refine g_aload_n rfl rfl ?_
  refine g_get (ci := 8) (kk := 0) rfl rfl (xF_ob hW) hW.b0 rfl ?_
  refine g_iload_n rfl rfl ?_
  refine g_iald rfl (xF_a1 hW) (by omega) ?_
  rw [show (s.1 1) (((30 * (t : Int)) + (i : Int))).toNat = s.1 1 (30 * t + i) from by rw [e1]]
  refine g_ifne rfl rfl (fun c7 => ?_) (fun c => absurd c (by omega))
  refine g_aload_n rfl rfl ?_
  refine g_get (ci := 8) (kk := 0) rfl rfl (xF_ob hW) hW.b0 rfl ?_
  refine g_iload_n rfl rfl ?_
  refine g_iald rfl (xF_a1 hW) (by omega) ?_
  rw [show (s.1 1) (((30 * (t : Int)) + (i : Int))).toNat = s.1 1 (30 * t + i) from by rw [e1]]
  refine g_iconst (n := 1) rfl (by decide) ?_
  refine g_icmpne rfl rfl (fun c => absurd c (by omega)) (fun c8 => ?_)
  refine g_bipush (n := 48) rfl (by decide) ?_
  refine g_goto rfl rfl ?_
  refine g_i2b rfl ?_
  refine g_bast rfl (xF_a12 hW) hW.bk (by omega) ?_
  generalize hg_hh9 : hput hh6 (m0 + 12) (eA 1 10240 (va_up PP6 ((b * 512) + 156).toNat (a8 (a8 48)))) = hh9
  have hW := xF_12 hW (b * 512 + 156).toNat (a8_r (a8 48))
  rw [a8_id (x := 48) (by omega) (by omega)] at hW hg_hh9
  rw [hg_hh9] at hW
  have hp7 : PL (va_up PP6 (b * 512 + 156).toNat (a8 48)) (rput X6 (b * 512 + 156) 48) := hp6.put (by omega) (by omega)
  have hx7 : (rput X6 (b * 512 + 156) 48).length = l.length := (rput_len _ _ _).trans hx6
  generalize hPP7 : va_up PP6 (b * 512 + 156).toNat (a8 48) = PP7 at hW hp7
  generalize hX7 : rput X6 (b * 512 + 156) 48 = X7 at hp7 hx7
  clear hp6 hx6
  refine g_aload_n rfl rfl ?_
  refine g_get (ci := 8) (kk := 0) rfl rfl (xF_ob hW) hW.b0 rfl ?_
  refine g_iload_n rfl rfl ?_
  refine g_iald rfl (xF_a1 hW) (by omega) ?_
  rw [show (s.1 1) (((30 * (t : Int)) + (i : Int))).toNat = s.1 1 (30 * t + i) from by rw [e1]]
  refine g_iconst (n := 2) rfl (by decide) ?_
  refine g_icmpne rfl rfl (fun c10 => ?_) (fun c => absurd c (by omega))
  refine g_aload_n rfl rfl ?_
  refine g_get (ci := 8) (kk := 0) rfl rfl (xF_ob hW) hW.b0 rfl ?_
  refine g_iload_n rfl rfl ?_
  refine g_iald rfl (xF_a1 hW) (by omega) ?_
  rw [show (s.1 1) (((30 * (t : Int)) + (i : Int))).toNat = s.1 1 (30 * t + i) from by rw [e1]]
  refine g_iconst (n := 3) rfl (by decide) ?_
  refine g_icmpne rfl rfl (fun c11 => ?_) (fun c => absurd c (by omega))
  refine g_iconst (n := 0) rfl (by decide) ?_
  refine g_istore (L' := [aR m0, aI (b * 512), aI (((30 * (t : Int)) + (i : Int))), aI c, aI sec, aI 0]) rfl rfl ?_
  refine hMk (d := d) (Q := RV none (fun h2 => ∃ P' W' n' C', WM B m0 h2 (xF s P' W' n' C') ∧ PL P' (hdrL (mst s) t i l b))) (b * 512) ((30 * (t : Int)) + (i : Int)) c (sec) PP7 (by omega) (by omega) (fun h hW => ?_) 8 0 _ (by omega) (by omega) (by omega) (by rw [cy_0]; exact hW)
  have hp8 : PL (cyW mkf PP7 (b * 512 + 257) 0 8) (pmrk X7 (b * 512 + 257)) := fun j hj => by
    rw [pmrk_len] at hj
    unfold pmrk
    rw [oF_get hj]
    unfold cyW
    by_cases z : b * 512 + 257 ≤ (j : Int) ∧ (j : Int) < b * 512 + 257 + 8
    · rw [if_pos z, if_pos z]
      congr 1
      omega
    · rw [if_neg z, if_neg z]
      exact hp7 j hj
  have hx8 : (pmrk X7 (b * 512 + 257)).length = l.length := (pmrk_len _ _).trans hx7
  generalize hPP8 : cyW mkf PP7 (b * 512 + 257) 0 8 = PP8 at hW hp8
  generalize hX8 : pmrk X7 (b * 512 + 257) = X8 at hp8 hx8
  clear hp7 hx7
  refine g_aload_n rfl rfl ?_
  refine g_iload_n rfl rfl ?_
  refine g_sipush (n := 329) rfl (by decide) ?_
  refine g_iadd rfl (by omega) ?_
  refine g_bipush (n := 7) rfl (by decide) ?_
  refine g_lconst (m := 0) rfl rfl ?_
  refine g_Vn (z := yMd_octal) (e := 1) (A := [aL 0, aI 7, aI ((b * 512) + 329)]) (rest := [])  rfl rfl rfl rfl rfl rfl (by omega) (xF_ob hW) hW.b0 (m_octal hW (b * 512 + 329) (0) 7 (by omega) (by omega) (by omega) (by omega) (by omega)) ?_
  intro hh1 hW
  have hp9 : PL (octF PP8 (b * 512 + 329) 7 (0)) (poct X8 (b * 512 + 329) 7 (0)) := hp8.oct (by omega) (by omega)
  have hx9 : (poct X8 (b * 512 + 329) 7 (0)).length = l.length := (poct_len _ _ _ _).trans hx8
  generalize hPP9 : octF PP8 (b * 512 + 329) 7 (0) = PP9 at hW hp9
  generalize hX9 : poct X8 (b * 512 + 329) 7 (0) = X9 at hp9 hx9
  clear hp8 hx8
  refine g_aload_n rfl rfl ?_
  refine g_iload_n rfl rfl ?_
  refine g_sipush (n := 337) rfl (by decide) ?_
  refine g_iadd rfl (by omega) ?_
  refine g_bipush (n := 7) rfl (by decide) ?_
  refine g_lconst (m := 0) rfl rfl ?_
  refine g_Vn (z := yMd_octal) (e := 1) (A := [aL 0, aI 7, aI ((b * 512) + 337)]) (rest := [])  rfl rfl rfl rfl rfl rfl (by omega) (xF_ob hW) hW.b0 (m_octal hW (b * 512 + 337) (0) 7 (by omega) (by omega) (by omega) (by omega) (by omega)) ?_
  intro hh2 hW
  have hp10 : PL (octF PP9 (b * 512 + 337) 7 (0)) (poct X9 (b * 512 + 337) 7 (0)) := hp9.oct (by omega) (by omega)
  have hx10 : (poct X9 (b * 512 + 337) 7 (0)).length = l.length := (poct_len _ _ _ _).trans hx9
  generalize hPP10 : octF PP9 (b * 512 + 337) 7 (0) = PP10 at hW hp10
  generalize hX10 : poct X9 (b * 512 + 337) 7 (0) = X10 at hp10 hx10
  clear hp9 hx9
  refine g_aload_n rfl rfl ?_
  refine g_iload_n rfl rfl ?_
  refine g_sipush (n := 148) rfl (by decide) ?_
  refine g_iadd rfl (by omega) ?_
  refine g_bipush (n := 6) rfl (by decide) ?_
  refine g_aload_n rfl rfl ?_
  refine g_iload_n rfl rfl ?_
  refine g_V (z := yMd_sum) (e := 1) (A := [aI (b * 512)]) (rest := [aI 6, aI ((b * 512) + 148), aR m0]) (v := aI (sums X10 b 512)) (P := fun h2 => h2 = hh2) rfl rfl rfl rfl rfl rfl (by omega) (xF_ob hW) hW.b0 ((by have k9 := m_sum (s := xF s PP10 W1 n1 C1) (d := d + 1 - 1) hM hW b hb0 (show b * 512 + 512 ≤ s.2 13 by omega); rw [hp10.pg (by omega)] at k9; exact k9)) ?_
  intro hh9 he9
  rw [he9]
  clear he9 hh9
  refine g_i2l rfl ?_
  have hs1 := sums_r X10 b 512
  have hs2 := sums_nn (l := X10) (b := b) hb0 512 (by omega)
  refine g_Vn (z := yMd_octal) (e := 1) (A := [aL (sums X10 b 512), aI 6, aI ((b * 512) + 148)]) (rest := [])  rfl rfl rfl rfl rfl rfl (by omega) (xF_ob hW) hW.b0 (m_octal hW (b * 512 + 148) (sums X10 b 512) 6 (by omega) (by omega) (by omega) (by omega) (by omega)) ?_
  intro hh3 hW
  have hp11 : PL (octF PP10 (b * 512 + 148) 6 (sums X10 b 512)) (poct X10 (b * 512 + 148) 6 (sums X10 b 512)) := hp10.oct (by omega) (by omega)
  have hx11 : (poct X10 (b * 512 + 148) 6 (sums X10 b 512)).length = l.length := (poct_len _ _ _ _).trans hx10
  generalize hPP11 : octF PP10 (b * 512 + 148) 6 (sums X10 b 512) = PP11 at hW hp11
  generalize hX11 : poct X10 (b * 512 + 148) 6 (sums X10 b 512) = X11 at hp11 hx11
  clear hp10 hx10
  refine g_aload_n rfl rfl ?_
  refine g_get (ci := 8) (kk := 12) rfl rfl (xF_ob hW) hW.b0 rfl ?_
  refine g_iload_n rfl rfl ?_
  refine g_sipush (n := 155) rfl (by decide) ?_
  refine g_iadd rfl (by omega) ?_
  refine g_bipush (n := 32) rfl (by decide) ?_
  refine g_bast rfl (xF_a12 hW) hW.bk (by omega) ?_
  generalize hg_hh4 : hput hh3 (m0 + 12) (eA 1 10240 (va_up PP11 ((b * 512) + 155).toNat (a8 32))) = hh4
  have hW := xF_12 hW (b * 512 + 155).toNat (a8_r 32)
  rw [hg_hh4] at hW
  have hp12 : PL (va_up PP11 (b * 512 + 155).toNat (a8 32)) (rput X11 (b * 512 + 155) 32) := hp11.put (by omega) (by omega)
  have hx12 : (rput X11 (b * 512 + 155) 32).length = l.length := (rput_len _ _ _).trans hx11
  generalize hPP12 : va_up PP11 (b * 512 + 155).toNat (a8 32) = PP12 at hW hp12
  generalize hX12 : rput X11 (b * 512 + 155) 32 = X12 at hp12 hx12
  clear hp11 hx11
  have e9 : hdrL (mst s) t i l b = X12 := by
    unfold hdrL pchk hd3
    rw [if_neg (by omega), if_neg (by omega)]
    unfold hd2 hd1
    rw [hkd, show typK 1 = 48 from rfl, hcln, hX1, hX2, hX3, hX4, hX5, hX6, hX7, hX8, hX9, hX10, hX11, hX12]
  exact r_v rfl rfl ⟨_, _, _, _, hW, by rw [e9]; exact hp12⟩
theorem m_hdt2 (hM : MOK s) (ht : t < 2) (hb : s.2 11 = 30 * (t : Int)) (hT : TI (mst s) t) {PB W1 C1 : Nat → Int} {n1 : Int} {X1 : List Int} (hW : WM B m0 h (xF s PB W1 n1 C1)) (hps : PL PB X1) (hx1 : X1.length = l.length) (hl : l.length = (s.2 13).toNat) {i : Nat} (h0 : 0 < i) (hi : i < ((mst s).2.2.2.1 t)) (hte : tel (mst s) t i) (b : Int) (hb0 : 0 ≤ b) (hbl : (b + 1) * 512 ≤ l.length) (hkd : ((mst s).2.1 ((mst s).2.2.1 t i) 0) = 2) (hX1 : pph l (b * 512) (pth (mst s) t i) = X1) (c sec x5 : Int) : Go (d + 1) yMd_head 101 [aR m0, aI (b * 512), aI ((30 * (t : Int)) + (i : Int)), aI c, aI sec, aI x5] [] h (RV none (fun h2 => ∃ P' W' n' C', WM B m0 h2 (xF s P' W' n' C') ∧ PL P' (hdrL (mst s) t i l b))) := by
  have hc := hT.c
  have hm := hM.2.2.2
  have hv := hT.v i hi
  have hbk := hT.b i hi
  have hsz := hM.1 (30 * t + i) (by omega)
  have ebd : ((mst s).1 (2 * (mst s).2.2.1 t i + 1)) = bdM s (30 * t + i) := mst_bd s ht (by omega)
  have hbl2 : (bdM s (30 * t + i)).length = (s.1 7 (30 * t + i)).toNat := oF_len _ _
  have hsz2 : s.1 7 (30 * t + i) ≤ 100 := by
    have z9 := hbk.2.1 hkd
    rw [ebd, hbl2] at z9
    omega
  clear hbk
  have hpf := pln_pth (mst s) t (((mst s).2.1 ((mst s).2.2.1 t i) 2))
  have hte2 := hte.2
  have e1 : (((30 * (t : Int)) + (i : Int))).toNat = 30 * t + i := by omega
  have hk1 : s.1 1 (30 * t + i) = 2 := hkd
  have hcln : ((cln (mst s) t i : Nat) : Int) = 0 := by
    unfold cln
    rw [if_neg (by rw [hkd]; decide)]
    rfl
  refine g_aload_n rfl rfl ?_
  refine g_iload_n rfl rfl ?_
  refine g_bipush (n := 100) rfl (by decide) ?_
  refine g_iadd rfl (by omega) ?_
  refine g_bipush (n := 7) rfl (by decide) ?_
  refine g_aload_n rfl rfl ?_
  refine g_get (ci := 8) (kk := 3) rfl rfl (xF_ob hW) hW.b0 rfl ?_
  refine g_iload_n rfl rfl ?_
  refine g_iald rfl (xF_a4 hW) (by omega) ?_
  rw [show (s.1 4) (((30 * (t : Int)) + (i : Int))).toNat = ((mst s).2.1 ((mst s).2.2.1 t i) 3) from by rw [e1]; rfl]
  refine g_i2l rfl ?_
  refine g_Vn (z := yMd_octal) (e := 1) (A := [aL (((mst s).2.1 ((mst s).2.2.1 t i) 3)), aI 7, aI ((b * 512) + 100)]) (rest := [])  rfl rfl rfl rfl rfl rfl (by omega) (xF_ob hW) hW.b0 (m_octal hW (b * 512 + 100) (((mst s).2.1 ((mst s).2.2.1 t i) 3)) 7 (by omega) (by omega) (by omega) (by omega) (by omega)) ?_
  intro hh1 hW
  have hp2 : PL (octF PB (b * 512 + 100) 7 (((mst s).2.1 ((mst s).2.2.1 t i) 3))) (poct X1 (b * 512 + 100) 7 (((mst s).2.1 ((mst s).2.2.1 t i) 3))) := hps.oct (by omega) (by omega)
  have hx2 : (poct X1 (b * 512 + 100) 7 (((mst s).2.1 ((mst s).2.2.1 t i) 3))).length = l.length := (poct_len _ _ _ _).trans hx1
  generalize hPP2 : octF PB (b * 512 + 100) 7 (((mst s).2.1 ((mst s).2.2.1 t i) 3)) = PP2 at hW hp2
  generalize hX2 : poct X1 (b * 512 + 100) 7 (((mst s).2.1 ((mst s).2.2.1 t i) 3)) = X2 at hp2 hx2
  clear hps hx1
  refine g_aload_n rfl rfl ?_
  refine g_iload_n rfl rfl ?_
  refine g_bipush (n := 108) rfl (by decide) ?_
  refine g_iadd rfl (by omega) ?_
  refine g_bipush (n := 7) rfl (by decide) ?_
  refine g_aload_n rfl rfl ?_
  refine g_get (ci := 8) (kk := 4) rfl rfl (xF_ob hW) hW.b0 rfl ?_
  refine g_iload_n rfl rfl ?_
  refine g_iald rfl (xF_a5 hW) (by omega) ?_
  rw [show (s.1 5) (((30 * (t : Int)) + (i : Int))).toNat = ((mst s).2.1 ((mst s).2.2.1 t i) 4) from by rw [e1]; rfl]
  refine g_i2l rfl ?_
  refine g_Vn (z := yMd_octal) (e := 1) (A := [aL (((mst s).2.1 ((mst s).2.2.1 t i) 4)), aI 7, aI ((b * 512) + 108)]) (rest := [])  rfl rfl rfl rfl rfl rfl (by omega) (xF_ob hW) hW.b0 (m_octal hW (b * 512 + 108) (((mst s).2.1 ((mst s).2.2.1 t i) 4)) 7 (by omega) (by omega) (by omega) (by omega) (by omega)) ?_
  intro hh2 hW
  have hp3 : PL (octF PP2 (b * 512 + 108) 7 (((mst s).2.1 ((mst s).2.2.1 t i) 4))) (poct X2 (b * 512 + 108) 7 (((mst s).2.1 ((mst s).2.2.1 t i) 4))) := hp2.oct (by omega) (by omega)
  have hx3 : (poct X2 (b * 512 + 108) 7 (((mst s).2.1 ((mst s).2.2.1 t i) 4))).length = l.length := (poct_len _ _ _ _).trans hx2
  generalize hPP3 : octF PP2 (b * 512 + 108) 7 (((mst s).2.1 ((mst s).2.2.1 t i) 4)) = PP3 at hW hp3
  generalize hX3 : poct X2 (b * 512 + 108) 7 (((mst s).2.1 ((mst s).2.2.1 t i) 4)) = X3 at hp3 hx3
  clear hp2 hx2
  refine g_aload_n rfl rfl ?_
  refine g_iload_n rfl rfl ?_
  refine g_bipush (n := 116) rfl (by decide) ?_
  refine g_iadd rfl (by omega) ?_
  refine g_bipush (n := 7) rfl (by decide) ?_
  refine g_lconst (m := 0) rfl rfl ?_
  refine g_Vn (z := yMd_octal) (e := 1) (A := [aL 0, aI 7, aI ((b * 512) + 116)]) (rest := [])  rfl rfl rfl rfl rfl rfl (by omega) (xF_ob hW) hW.b0 (m_octal hW (b * 512 + 116) (0) 7 (by omega) (by omega) (by omega) (by omega) (by omega)) ?_
  intro hh3 hW
  have hp4 : PL (octF PP3 (b * 512 + 116) 7 (0)) (poct X3 (b * 512 + 116) 7 (0)) := hp3.oct (by omega) (by omega)
  have hx4 : (poct X3 (b * 512 + 116) 7 (0)).length = l.length := (poct_len _ _ _ _).trans hx3
  generalize hPP4 : octF PP3 (b * 512 + 116) 7 (0) = PP4 at hW hp4
  generalize hX4 : poct X3 (b * 512 + 116) 7 (0) = X4 at hp4 hx4
  clear hp3 hx3
  refine g_aload_n rfl rfl ?_
  refine g_iload_n rfl rfl ?_
  refine g_bipush (n := 124) rfl (by decide) ?_
  refine g_iadd rfl (by omega) ?_
  refine g_bipush (n := 11) rfl (by decide) ?_
  refine g_aload_n rfl rfl ?_
  refine g_get (ci := 8) (kk := 0) rfl rfl (xF_ob hW) hW.b0 rfl ?_
  refine g_iload_n rfl rfl ?_
  refine g_iald rfl (xF_a1 hW) (by omega) ?_
  rw [show (s.1 1) (((30 * (t : Int)) + (i : Int))).toNat = s.1 1 (30 * t + i) from by rw [e1]]
  refine g_iconst (n := 1) rfl (by decide) ?_
  refine g_icmpne rfl rfl (fun c4 => ?_) (fun c => absurd c (by omega))
  refine g_lconst (m := 0) rfl rfl ?_
  refine g_Vn (z := yMd_octal) (e := 1) (A := [aL 0, aI 11, aI ((b * 512) + 124)]) (rest := [])  rfl rfl rfl rfl rfl rfl (by omega) (xF_ob hW) hW.b0 (m_octal hW (b * 512 + 124) (0) 11 (by omega) (by omega) (by omega) (by omega) (by omega)) ?_
  intro hh5 hW
  have hp5 : PL (octF PP4 (b * 512 + 124) 11 (0)) (poct X4 (b * 512 + 124) 11 (0)) := hp4.oct (by omega) (by omega)
  have hx5 : (poct X4 (b * 512 + 124) 11 (0)).length = l.length := (poct_len _ _ _ _).trans hx4
  generalize hPP5 : octF PP4 (b * 512 + 124) 11 (0) = PP5 at hW hp5
  generalize hX5 : poct X4 (b * 512 + 124) 11 (0) = X5 at hp5 hx5
  clear hp4 hx4
  refine g_aload_n rfl rfl ?_
  refine g_iload_n rfl rfl ?_
  refine g_sipush (n := 136) rfl (by decide) ?_
  refine g_iadd rfl (by omega) ?_
  refine g_bipush (n := 11) rfl (by decide) ?_
  refine g_aload_n rfl rfl ?_
  refine g_get (ci := 8) (kk := 5) rfl rfl (xF_ob hW) hW.b0 rfl ?_
  refine g_iload_n rfl rfl ?_
  refine g_iald rfl (xF_a6 hW) (by omega) ?_
  rw [show (s.1 6) (((30 * (t : Int)) + (i : Int))).toNat = ((mst s).2.1 ((mst s).2.2.1 t i) 5) from by rw [e1]; rfl]
  refine g_i2l rfl ?_
  refine g_Vn (z := yMd_octal) (e := 1) (A := [aL (((mst s).2.1 ((mst s).2.2.1 t i) 5)), aI 11, aI ((b * 512) + 136)]) (rest := [])  rfl rfl rfl rfl rfl rfl (by omega) (xF_ob hW) hW.b0 (m_octal hW (b * 512 + 136) (((mst s).2.1 ((mst s).2.2.1 t i) 5)) 11 (by omega) (by omega) (by omega) (by omega) (by omega)) ?_
  intro hh6 hW
  have hp6 : PL (octF PP5 (b * 512 + 136) 11 (((mst s).2.1 ((mst s).2.2.1 t i) 5))) (poct X5 (b * 512 + 136) 11 (((mst s).2.1 ((mst s).2.2.1 t i) 5))) := hp5.oct (by omega) (by omega)
  have hx6 : (poct X5 (b * 512 + 136) 11 (((mst s).2.1 ((mst s).2.2.1 t i) 5))).length = l.length := (poct_len _ _ _ _).trans hx5
  generalize hPP6 : octF PP5 (b * 512 + 136) 11 (((mst s).2.1 ((mst s).2.2.1 t i) 5)) = PP6 at hW hp6
  generalize hX6 : poct X5 (b * 512 + 136) 11 (((mst s).2.1 ((mst s).2.2.1 t i) 5)) = X6 at hp6 hx6
  clear hp5 hx5
  refine g_aload_n rfl rfl ?_
  refine g_get (ci := 8) (kk := 12) rfl rfl (xF_ob hW) hW.b0 rfl ?_
  refine g_iload_n rfl rfl ?_
  refine g_sipush (n := 156) rfl (by decide) ?_
  refine g_iadd rfl (by omega) ?_
  refine g_aload_n rfl rfl ?_
  refine g_get (ci := 8) (kk := 0) rfl rfl (xF_ob hW) hW.b0 rfl ?_
  refine g_iload_n rfl rfl ?_
  refine g_iald rfl (xF_a1 hW) (by omega) ?_
  rw [show (s.1 1) (((30 * (t : Int)) + (i : Int))).toNat = s.1 1 (30 * t + i) from by rw [e1]]
  refine g_ifne rfl rfl (fun c7 => ?_) (fun c => absurd c (by omega))
  refine g_aload_n rfl rfl ?_
  refine g_get (ci := 8) (kk := 0) rfl rfl (xF_ob hW) hW.b0 rfl ?_
  refine g_iload_n rfl rfl ?_
  refine g_iald rfl (xF_a1 hW) (by omega) ?_
  rw [show (s.1 1) (((30 * (t : Int)) + (i : Int))).toNat = s.1 1 (30 * t + i) from by rw [e1]]
  refine g_iconst (n := 1) rfl (by decide) ?_
  refine g_icmpne rfl rfl (fun c8 => ?_) (fun c => absurd c (by omega))
  refine g_aload_n rfl rfl ?_
  refine g_get (ci := 8) (kk := 0) rfl rfl (xF_ob hW) hW.b0 rfl ?_
  refine g_iload_n rfl rfl ?_
  refine g_iald rfl (xF_a1 hW) (by omega) ?_
  rw [show (s.1 1) (((30 * (t : Int)) + (i : Int))).toNat = s.1 1 (30 * t + i) from by rw [e1]]
  refine g_iconst (n := 2) rfl (by decide) ?_
  refine g_icmpne rfl rfl (fun c => absurd c (by omega)) (fun c9 => ?_)
  refine g_bipush (n := 50) rfl (by decide) ?_
  refine g_goto rfl rfl ?_
  refine g_i2b rfl ?_
  refine g_bast rfl (xF_a12 hW) hW.bk (by omega) ?_
  generalize hg_hh10 : hput hh6 (m0 + 12) (eA 1 10240 (va_up PP6 ((b * 512) + 156).toNat (a8 (a8 50)))) = hh10
  have hW := xF_12 hW (b * 512 + 156).toNat (a8_r (a8 50))
  rw [a8_id (x := 50) (by omega) (by omega)] at hW hg_hh10
  rw [hg_hh10] at hW
  have hp7 : PL (va_up PP6 (b * 512 + 156).toNat (a8 50)) (rput X6 (b * 512 + 156) 50) := hp6.put (by omega) (by omega)
  have hx7 : (rput X6 (b * 512 + 156) 50).length = l.length := (rput_len _ _ _).trans hx6
  generalize hPP7 : va_up PP6 (b * 512 + 156).toNat (a8 50) = PP7 at hW hp7
  generalize hX7 : rput X6 (b * 512 + 156) 50 = X7 at hp7 hx7
  clear hp6 hx6
  refine g_aload_n rfl rfl ?_
  refine g_get (ci := 8) (kk := 0) rfl rfl (xF_ob hW) hW.b0 rfl ?_
  refine g_iload_n rfl rfl ?_
  refine g_iald rfl (xF_a1 hW) (by omega) ?_
  rw [show (s.1 1) (((30 * (t : Int)) + (i : Int))).toNat = s.1 1 (30 * t + i) from by rw [e1]]
  refine g_iconst (n := 2) rfl (by decide) ?_
  refine g_icmpne rfl rfl (fun c => absurd c (by omega)) (fun c11 => ?_)
  refine g_iconst (n := 0) rfl (by decide) ?_
  refine g_istore (L' := [aR m0, aI (b * 512), aI (((30 * (t : Int)) + (i : Int))), aI c, aI sec, aI 0]) rfl rfl ?_
  have g3 := fun kk => hS (d := d + 1) (s := s) (Q := RV none (fun h2 => ∃ P' W' n' C', WM B m0 h2 (xF s P' W' n' C') ∧ PL P' (hdrL (mst s) t i l b))) (b * 512) ((30 * (t : Int)) + (i : Int)) c (sec) PP7 (by omega) (by omega) (by omega) (by omega) (by rw [e1]; exact hsz2) kk (s.1 7 (((30 * (t : Int)) + (i : Int))).toNat).toNat 0 _ (by omega) (by rw [e1]; omega) (by omega) (by rw [cy_0]; exact hW)
  rw [show (0 : Int) + 0 = 0 by omega] at g3
  refine g3 (fun h hW => ?_)
  clear g3
  have hp8 : PL (cyW (s.1 11) PP7 (b * 512 + 157) (2000 * ((30 * (t : Int)) + (i : Int))) (s.1 7 (((30 * (t : Int)) + (i : Int))).toNat)) (ovl X7 (b * 512 + 157) (((mst s).1 (2 * (mst s).2.2.1 t i + 1)))) := hp7.ovl (fun j hj => by rw [ebd] at hj ⊢; rw [show (2000 * ((30 * (t : Int)) + (i : Int))).toNat = 2000 * (30 * t + i) by omega]; exact (bdM_get s hj).symm) (by rw [ebd, hbl2, e1]; omega) (by omega) (by omega)
  have hx8 : (ovl X7 (b * 512 + 157) (((mst s).1 (2 * (mst s).2.2.1 t i + 1)))).length = l.length := (ovl_len _ _ _).trans hx7
  generalize hPP8 : cyW (s.1 11) PP7 (b * 512 + 157) (2000 * ((30 * (t : Int)) + (i : Int))) (s.1 7 (((30 * (t : Int)) + (i : Int))).toNat) = PP8 at hW hp8
  generalize hX8 : ovl X7 (b * 512 + 157) (((mst s).1 (2 * (mst s).2.2.1 t i + 1))) = X8 at hp8 hx8
  clear hp7 hx7
  refine g_goto rfl rfl ?_
  refine g_iconst (n := 0) rfl (by decide) ?_
  refine g_istore (L' := [aR m0, aI (b * 512), aI (((30 * (t : Int)) + (i : Int))), aI c, aI sec, aI 0]) rfl rfl ?_
  refine hMk (d := d) (Q := RV none (fun h2 => ∃ P' W' n' C', WM B m0 h2 (xF s P' W' n' C') ∧ PL P' (hdrL (mst s) t i l b))) (b * 512) ((30 * (t : Int)) + (i : Int)) c (sec) PP8 (by omega) (by omega) (fun h hW => ?_) 8 0 _ (by omega) (by omega) (by omega) (by rw [cy_0]; exact hW)
  have hp9 : PL (cyW mkf PP8 (b * 512 + 257) 0 8) (pmrk X8 (b * 512 + 257)) := fun j hj => by
    rw [pmrk_len] at hj
    unfold pmrk
    rw [oF_get hj]
    unfold cyW
    by_cases z : b * 512 + 257 ≤ (j : Int) ∧ (j : Int) < b * 512 + 257 + 8
    · rw [if_pos z, if_pos z]
      congr 1
      omega
    · rw [if_neg z, if_neg z]
      exact hp8 j hj
  have hx9 : (pmrk X8 (b * 512 + 257)).length = l.length := (pmrk_len _ _).trans hx8
  generalize hPP9 : cyW mkf PP8 (b * 512 + 257) 0 8 = PP9 at hW hp9
  generalize hX9 : pmrk X8 (b * 512 + 257) = X9 at hp9 hx9
  clear hp8 hx8
  refine g_aload_n rfl rfl ?_
  refine g_iload_n rfl rfl ?_
  refine g_sipush (n := 329) rfl (by decide) ?_
  refine g_iadd rfl (by omega) ?_
  refine g_bipush (n := 7) rfl (by decide) ?_
  refine g_lconst (m := 0) rfl rfl ?_
  refine g_Vn (z := yMd_octal) (e := 1) (A := [aL 0, aI 7, aI ((b * 512) + 329)]) (rest := [])  rfl rfl rfl rfl rfl rfl (by omega) (xF_ob hW) hW.b0 (m_octal hW (b * 512 + 329) (0) 7 (by omega) (by omega) (by omega) (by omega) (by omega)) ?_
  intro hh1 hW
  have hp10 : PL (octF PP9 (b * 512 + 329) 7 (0)) (poct X9 (b * 512 + 329) 7 (0)) := hp9.oct (by omega) (by omega)
  have hx10 : (poct X9 (b * 512 + 329) 7 (0)).length = l.length := (poct_len _ _ _ _).trans hx9
  generalize hPP10 : octF PP9 (b * 512 + 329) 7 (0) = PP10 at hW hp10
  generalize hX10 : poct X9 (b * 512 + 329) 7 (0) = X10 at hp10 hx10
  clear hp9 hx9
  refine g_aload_n rfl rfl ?_
  refine g_iload_n rfl rfl ?_
  refine g_sipush (n := 337) rfl (by decide) ?_
  refine g_iadd rfl (by omega) ?_
  refine g_bipush (n := 7) rfl (by decide) ?_
  refine g_lconst (m := 0) rfl rfl ?_
  refine g_Vn (z := yMd_octal) (e := 1) (A := [aL 0, aI 7, aI ((b * 512) + 337)]) (rest := [])  rfl rfl rfl rfl rfl rfl (by omega) (xF_ob hW) hW.b0 (m_octal hW (b * 512 + 337) (0) 7 (by omega) (by omega) (by omega) (by omega) (by omega)) ?_
  intro hh2 hW
  have hp11 : PL (octF PP10 (b * 512 + 337) 7 (0)) (poct X10 (b * 512 + 337) 7 (0)) := hp10.oct (by omega) (by omega)
  have hx11 : (poct X10 (b * 512 + 337) 7 (0)).length = l.length := (poct_len _ _ _ _).trans hx10
  generalize hPP11 : octF PP10 (b * 512 + 337) 7 (0) = PP11 at hW hp11
  generalize hX11 : poct X10 (b * 512 + 337) 7 (0) = X11 at hp11 hx11
  clear hp10 hx10
  refine g_aload_n rfl rfl ?_
  refine g_iload_n rfl rfl ?_
  refine g_sipush (n := 148) rfl (by decide) ?_
  refine g_iadd rfl (by omega) ?_
  refine g_bipush (n := 6) rfl (by decide) ?_
  refine g_aload_n rfl rfl ?_
  refine g_iload_n rfl rfl ?_
  refine g_V (z := yMd_sum) (e := 1) (A := [aI (b * 512)]) (rest := [aI 6, aI ((b * 512) + 148), aR m0]) (v := aI (sums X11 b 512)) (P := fun h2 => h2 = hh2) rfl rfl rfl rfl rfl rfl (by omega) (xF_ob hW) hW.b0 ((by have k9 := m_sum (s := xF s PP11 W1 n1 C1) (d := d + 1 - 1) hM hW b hb0 (show b * 512 + 512 ≤ s.2 13 by omega); rw [hp11.pg (by omega)] at k9; exact k9)) ?_
  intro hh9 he9
  rw [he9]
  clear he9 hh9
  refine g_i2l rfl ?_
  have hs1 := sums_r X11 b 512
  have hs2 := sums_nn (l := X11) (b := b) hb0 512 (by omega)
  refine g_Vn (z := yMd_octal) (e := 1) (A := [aL (sums X11 b 512), aI 6, aI ((b * 512) + 148)]) (rest := [])  rfl rfl rfl rfl rfl rfl (by omega) (xF_ob hW) hW.b0 (m_octal hW (b * 512 + 148) (sums X11 b 512) 6 (by omega) (by omega) (by omega) (by omega) (by omega)) ?_
  intro hh3 hW
  have hp12 : PL (octF PP11 (b * 512 + 148) 6 (sums X11 b 512)) (poct X11 (b * 512 + 148) 6 (sums X11 b 512)) := hp11.oct (by omega) (by omega)
  have hx12 : (poct X11 (b * 512 + 148) 6 (sums X11 b 512)).length = l.length := (poct_len _ _ _ _).trans hx11
  generalize hPP12 : octF PP11 (b * 512 + 148) 6 (sums X11 b 512) = PP12 at hW hp12
  generalize hX12 : poct X11 (b * 512 + 148) 6 (sums X11 b 512) = X12 at hp12 hx12
  clear hp11 hx11
  refine g_aload_n rfl rfl ?_
  refine g_get (ci := 8) (kk := 12) rfl rfl (xF_ob hW) hW.b0 rfl ?_
  refine g_iload_n rfl rfl ?_
  refine g_sipush (n := 155) rfl (by decide) ?_
  refine g_iadd rfl (by omega) ?_
  refine g_bipush (n := 32) rfl (by decide) ?_
  refine g_bast rfl (xF_a12 hW) hW.bk (by omega) ?_
  generalize hg_hh4 : hput hh3 (m0 + 12) (eA 1 10240 (va_up PP12 ((b * 512) + 155).toNat (a8 32))) = hh4
  have hW := xF_12 hW (b * 512 + 155).toNat (a8_r 32)
  rw [hg_hh4] at hW
  have hp13 : PL (va_up PP12 (b * 512 + 155).toNat (a8 32)) (rput X12 (b * 512 + 155) 32) := hp12.put (by omega) (by omega)
  have hx13 : (rput X12 (b * 512 + 155) 32).length = l.length := (rput_len _ _ _).trans hx12
  generalize hPP13 : va_up PP12 (b * 512 + 155).toNat (a8 32) = PP13 at hW hp13
  generalize hX13 : rput X12 (b * 512 + 155) 32 = X13 at hp13 hx13
  clear hp12 hx12
  have e9 : hdrL (mst s) t i l b = X13 := by
    unfold hdrL pchk hd3
    rw [if_pos hkd]
    unfold hd2 hd1
    rw [hkd, show typK 2 = 50 from rfl, hcln, hX1, hX2, hX3, hX4, hX5, hX6, hX7, hX8, hX9, hX10, hX11, hX12, hX13]
  exact r_v rfl rfl ⟨_, _, _, _, hW, by rw [e9]; exact hp13⟩
theorem m_hdt3 (hM : MOK s) (ht : t < 2) (hb : s.2 11 = 30 * (t : Int)) (hT : TI (mst s) t) {PB W1 C1 : Nat → Int} {n1 : Int} {X1 : List Int} (hW : WM B m0 h (xF s PB W1 n1 C1)) (hps : PL PB X1) (hx1 : X1.length = l.length) (hl : l.length = (s.2 13).toNat) {i : Nat} (h0 : 0 < i) (hi : i < ((mst s).2.2.2.1 t)) (hte : tel (mst s) t i) (b : Int) (hb0 : 0 ≤ b) (hbl : (b + 1) * 512 ≤ l.length) (hkd : ((mst s).2.1 ((mst s).2.2.1 t i) 0) = 3) (hX1 : pph l (b * 512) (pth (mst s) t i) = X1) (c sec x5 : Int) : Go (d + 1) yMd_head 101 [aR m0, aI (b * 512), aI ((30 * (t : Int)) + (i : Int)), aI c, aI sec, aI x5] [] h (RV none (fun h2 => ∃ P' W' n' C', WM B m0 h2 (xF s P' W' n' C') ∧ PL P' (hdrL (mst s) t i l b))) := by
  have hc := hT.c
  have hm := hM.2.2.2
  have hv := hT.v i hi
  have hbk := hT.b i hi
  have hsz := hM.1 (30 * t + i) (by omega)
  have ebd : ((mst s).1 (2 * (mst s).2.2.1 t i + 1)) = bdM s (30 * t + i) := mst_bd s ht (by omega)
  have hbl2 : (bdM s (30 * t + i)).length = (s.1 7 (30 * t + i)).toNat := oF_len _ _
  clear hbk
  have hpf := pln_pth (mst s) t (((mst s).2.1 ((mst s).2.2.1 t i) 2))
  have hte2 := hte.2
  have e1 : (((30 * (t : Int)) + (i : Int))).toNat = 30 * t + i := by omega
  have hk1 : s.1 1 (30 * t + i) = 3 := hkd
  have hcln : ((cln (mst s) t i : Nat) : Int) = 0 := by
    unfold cln
    rw [if_neg (by rw [hkd]; decide)]
    rfl
  refine g_aload_n rfl rfl ?_
  refine g_iload_n rfl rfl ?_
  refine g_bipush (n := 100) rfl (by decide) ?_
  refine g_iadd rfl (by omega) ?_
  refine g_bipush (n := 7) rfl (by decide) ?_
  refine g_aload_n rfl rfl ?_
  refine g_get (ci := 8) (kk := 3) rfl rfl (xF_ob hW) hW.b0 rfl ?_
  refine g_iload_n rfl rfl ?_
  refine g_iald rfl (xF_a4 hW) (by omega) ?_
  rw [show (s.1 4) (((30 * (t : Int)) + (i : Int))).toNat = ((mst s).2.1 ((mst s).2.2.1 t i) 3) from by rw [e1]; rfl]
  refine g_i2l rfl ?_
  refine g_Vn (z := yMd_octal) (e := 1) (A := [aL (((mst s).2.1 ((mst s).2.2.1 t i) 3)), aI 7, aI ((b * 512) + 100)]) (rest := [])  rfl rfl rfl rfl rfl rfl (by omega) (xF_ob hW) hW.b0 (m_octal hW (b * 512 + 100) (((mst s).2.1 ((mst s).2.2.1 t i) 3)) 7 (by omega) (by omega) (by omega) (by omega) (by omega)) ?_
  intro hh1 hW
  have hp2 : PL (octF PB (b * 512 + 100) 7 (((mst s).2.1 ((mst s).2.2.1 t i) 3))) (poct X1 (b * 512 + 100) 7 (((mst s).2.1 ((mst s).2.2.1 t i) 3))) := hps.oct (by omega) (by omega)
  have hx2 : (poct X1 (b * 512 + 100) 7 (((mst s).2.1 ((mst s).2.2.1 t i) 3))).length = l.length := (poct_len _ _ _ _).trans hx1
  generalize hPP2 : octF PB (b * 512 + 100) 7 (((mst s).2.1 ((mst s).2.2.1 t i) 3)) = PP2 at hW hp2
  generalize hX2 : poct X1 (b * 512 + 100) 7 (((mst s).2.1 ((mst s).2.2.1 t i) 3)) = X2 at hp2 hx2
  clear hps hx1
  refine g_aload_n rfl rfl ?_
  refine g_iload_n rfl rfl ?_
  refine g_bipush (n := 108) rfl (by decide) ?_
  refine g_iadd rfl (by omega) ?_
  refine g_bipush (n := 7) rfl (by decide) ?_
  refine g_aload_n rfl rfl ?_
  refine g_get (ci := 8) (kk := 4) rfl rfl (xF_ob hW) hW.b0 rfl ?_
  refine g_iload_n rfl rfl ?_
  refine g_iald rfl (xF_a5 hW) (by omega) ?_
  rw [show (s.1 5) (((30 * (t : Int)) + (i : Int))).toNat = ((mst s).2.1 ((mst s).2.2.1 t i) 4) from by rw [e1]; rfl]
  refine g_i2l rfl ?_
  refine g_Vn (z := yMd_octal) (e := 1) (A := [aL (((mst s).2.1 ((mst s).2.2.1 t i) 4)), aI 7, aI ((b * 512) + 108)]) (rest := [])  rfl rfl rfl rfl rfl rfl (by omega) (xF_ob hW) hW.b0 (m_octal hW (b * 512 + 108) (((mst s).2.1 ((mst s).2.2.1 t i) 4)) 7 (by omega) (by omega) (by omega) (by omega) (by omega)) ?_
  intro hh2 hW
  have hp3 : PL (octF PP2 (b * 512 + 108) 7 (((mst s).2.1 ((mst s).2.2.1 t i) 4))) (poct X2 (b * 512 + 108) 7 (((mst s).2.1 ((mst s).2.2.1 t i) 4))) := hp2.oct (by omega) (by omega)
  have hx3 : (poct X2 (b * 512 + 108) 7 (((mst s).2.1 ((mst s).2.2.1 t i) 4))).length = l.length := (poct_len _ _ _ _).trans hx2
  generalize hPP3 : octF PP2 (b * 512 + 108) 7 (((mst s).2.1 ((mst s).2.2.1 t i) 4)) = PP3 at hW hp3
  generalize hX3 : poct X2 (b * 512 + 108) 7 (((mst s).2.1 ((mst s).2.2.1 t i) 4)) = X3 at hp3 hx3
  clear hp2 hx2
  refine g_aload_n rfl rfl ?_
  refine g_iload_n rfl rfl ?_
  refine g_bipush (n := 116) rfl (by decide) ?_
  refine g_iadd rfl (by omega) ?_
  refine g_bipush (n := 7) rfl (by decide) ?_
  refine g_lconst (m := 0) rfl rfl ?_
  refine g_Vn (z := yMd_octal) (e := 1) (A := [aL 0, aI 7, aI ((b * 512) + 116)]) (rest := [])  rfl rfl rfl rfl rfl rfl (by omega) (xF_ob hW) hW.b0 (m_octal hW (b * 512 + 116) (0) 7 (by omega) (by omega) (by omega) (by omega) (by omega)) ?_
  intro hh3 hW
  have hp4 : PL (octF PP3 (b * 512 + 116) 7 (0)) (poct X3 (b * 512 + 116) 7 (0)) := hp3.oct (by omega) (by omega)
  have hx4 : (poct X3 (b * 512 + 116) 7 (0)).length = l.length := (poct_len _ _ _ _).trans hx3
  generalize hPP4 : octF PP3 (b * 512 + 116) 7 (0) = PP4 at hW hp4
  generalize hX4 : poct X3 (b * 512 + 116) 7 (0) = X4 at hp4 hx4
  clear hp3 hx3
  refine g_aload_n rfl rfl ?_
  refine g_iload_n rfl rfl ?_
  refine g_bipush (n := 124) rfl (by decide) ?_
  refine g_iadd rfl (by omega) ?_
  refine g_bipush (n := 11) rfl (by decide) ?_
  refine g_aload_n rfl rfl ?_
  refine g_get (ci := 8) (kk := 0) rfl rfl (xF_ob hW) hW.b0 rfl ?_
  refine g_iload_n rfl rfl ?_
  refine g_iald rfl (xF_a1 hW) (by omega) ?_
  rw [show (s.1 1) (((30 * (t : Int)) + (i : Int))).toNat = s.1 1 (30 * t + i) from by rw [e1]]
  refine g_iconst (n := 1) rfl (by decide) ?_
  refine g_icmpne rfl rfl (fun c4 => ?_) (fun c => absurd c (by omega))
  refine g_lconst (m := 0) rfl rfl ?_
  refine g_Vn (z := yMd_octal) (e := 1) (A := [aL 0, aI 11, aI ((b * 512) + 124)]) (rest := [])  rfl rfl rfl rfl rfl rfl (by omega) (xF_ob hW) hW.b0 (m_octal hW (b * 512 + 124) (0) 11 (by omega) (by omega) (by omega) (by omega) (by omega)) ?_
  intro hh5 hW
  have hp5 : PL (octF PP4 (b * 512 + 124) 11 (0)) (poct X4 (b * 512 + 124) 11 (0)) := hp4.oct (by omega) (by omega)
  have hx5 : (poct X4 (b * 512 + 124) 11 (0)).length = l.length := (poct_len _ _ _ _).trans hx4
  generalize hPP5 : octF PP4 (b * 512 + 124) 11 (0) = PP5 at hW hp5
  generalize hX5 : poct X4 (b * 512 + 124) 11 (0) = X5 at hp5 hx5
  clear hp4 hx4
  refine g_aload_n rfl rfl ?_
  refine g_iload_n rfl rfl ?_
  refine g_sipush (n := 136) rfl (by decide) ?_
  refine g_iadd rfl (by omega) ?_
  refine g_bipush (n := 11) rfl (by decide) ?_
  refine g_aload_n rfl rfl ?_
  refine g_get (ci := 8) (kk := 5) rfl rfl (xF_ob hW) hW.b0 rfl ?_
  refine g_iload_n rfl rfl ?_
  refine g_iald rfl (xF_a6 hW) (by omega) ?_
  rw [show (s.1 6) (((30 * (t : Int)) + (i : Int))).toNat = ((mst s).2.1 ((mst s).2.2.1 t i) 5) from by rw [e1]; rfl]
  refine g_i2l rfl ?_
  refine g_Vn (z := yMd_octal) (e := 1) (A := [aL (((mst s).2.1 ((mst s).2.2.1 t i) 5)), aI 11, aI ((b * 512) + 136)]) (rest := [])  rfl rfl rfl rfl rfl rfl (by omega) (xF_ob hW) hW.b0 (m_octal hW (b * 512 + 136) (((mst s).2.1 ((mst s).2.2.1 t i) 5)) 11 (by omega) (by omega) (by omega) (by omega) (by omega)) ?_
  intro hh6 hW
  have hp6 : PL (octF PP5 (b * 512 + 136) 11 (((mst s).2.1 ((mst s).2.2.1 t i) 5))) (poct X5 (b * 512 + 136) 11 (((mst s).2.1 ((mst s).2.2.1 t i) 5))) := hp5.oct (by omega) (by omega)
  have hx6 : (poct X5 (b * 512 + 136) 11 (((mst s).2.1 ((mst s).2.2.1 t i) 5))).length = l.length := (poct_len _ _ _ _).trans hx5
  generalize hPP6 : octF PP5 (b * 512 + 136) 11 (((mst s).2.1 ((mst s).2.2.1 t i) 5)) = PP6 at hW hp6
  generalize hX6 : poct X5 (b * 512 + 136) 11 (((mst s).2.1 ((mst s).2.2.1 t i) 5)) = X6 at hp6 hx6
  clear hp5 hx5
  refine g_aload_n rfl rfl ?_
  refine g_get (ci := 8) (kk := 12) rfl rfl (xF_ob hW) hW.b0 rfl ?_
  refine g_iload_n rfl rfl ?_
  refine g_sipush (n := 156) rfl (by decide) ?_
  refine g_iadd rfl (by omega) ?_
  refine g_aload_n rfl rfl ?_
  refine g_get (ci := 8) (kk := 0) rfl rfl (xF_ob hW) hW.b0 rfl ?_
  refine g_iload_n rfl rfl ?_
  refine g_iald rfl (xF_a1 hW) (by omega) ?_
  rw [show (s.1 1) (((30 * (t : Int)) + (i : Int))).toNat = s.1 1 (30 * t + i) from by rw [e1]]
  refine g_ifne rfl rfl (fun c7 => ?_) (fun c => absurd c (by omega))
  refine g_aload_n rfl rfl ?_
  refine g_get (ci := 8) (kk := 0) rfl rfl (xF_ob hW) hW.b0 rfl ?_
  refine g_iload_n rfl rfl ?_
  refine g_iald rfl (xF_a1 hW) (by omega) ?_
  rw [show (s.1 1) (((30 * (t : Int)) + (i : Int))).toNat = s.1 1 (30 * t + i) from by rw [e1]]
  refine g_iconst (n := 1) rfl (by decide) ?_
  refine g_icmpne rfl rfl (fun c8 => ?_) (fun c => absurd c (by omega))
  refine g_aload_n rfl rfl ?_
  refine g_get (ci := 8) (kk := 0) rfl rfl (xF_ob hW) hW.b0 rfl ?_
  refine g_iload_n rfl rfl ?_
  refine g_iald rfl (xF_a1 hW) (by omega) ?_
  rw [show (s.1 1) (((30 * (t : Int)) + (i : Int))).toNat = s.1 1 (30 * t + i) from by rw [e1]]
  refine g_iconst (n := 2) rfl (by decide) ?_
  refine g_icmpne rfl rfl (fun c9 => ?_) (fun c => absurd c (by omega))
  refine g_bipush (n := 49) rfl (by decide) ?_
  refine g_i2b rfl ?_
  refine g_bast rfl (xF_a12 hW) hW.bk (by omega) ?_
  generalize hg_hh10 : hput hh6 (m0 + 12) (eA 1 10240 (va_up PP6 ((b * 512) + 156).toNat (a8 (a8 49)))) = hh10
  have hW := xF_12 hW (b * 512 + 156).toNat (a8_r (a8 49))
  rw [a8_id (x := 49) (by omega) (by omega)] at hW hg_hh10
  rw [hg_hh10] at hW
  have hp7 : PL (va_up PP6 (b * 512 + 156).toNat (a8 49)) (rput X6 (b * 512 + 156) 49) := hp6.put (by omega) (by omega)
  have hx7 : (rput X6 (b * 512 + 156) 49).length = l.length := (rput_len _ _ _).trans hx6
  generalize hPP7 : va_up PP6 (b * 512 + 156).toNat (a8 49) = PP7 at hW hp7
  generalize hX7 : rput X6 (b * 512 + 156) 49 = X7 at hp7 hx7
  clear hp6 hx6
  refine g_aload_n rfl rfl ?_
  refine g_get (ci := 8) (kk := 0) rfl rfl (xF_ob hW) hW.b0 rfl ?_
  refine g_iload_n rfl rfl ?_
  refine g_iald rfl (xF_a1 hW) (by omega) ?_
  rw [show (s.1 1) (((30 * (t : Int)) + (i : Int))).toNat = s.1 1 (30 * t + i) from by rw [e1]]
  refine g_iconst (n := 2) rfl (by decide) ?_
  refine g_icmpne rfl rfl (fun c11 => ?_) (fun c => absurd c (by omega))
  refine g_aload_n rfl rfl ?_
  refine g_get (ci := 8) (kk := 0) rfl rfl (xF_ob hW) hW.b0 rfl ?_
  refine g_iload_n rfl rfl ?_
  refine g_iald rfl (xF_a1 hW) (by omega) ?_
  rw [show (s.1 1) (((30 * (t : Int)) + (i : Int))).toNat = s.1 1 (30 * t + i) from by rw [e1]]
  refine g_iconst (n := 3) rfl (by decide) ?_
  refine g_icmpne rfl rfl (fun c => absurd c (by omega)) (fun c12 => ?_)
  refine g_aload_n rfl rfl ?_
  refine g_aload_n rfl rfl ?_
  refine g_get (ci := 8) (kk := 7) rfl rfl (xF_ob hW) hW.b0 rfl ?_
  refine g_iload_n rfl rfl ?_
  refine g_iald rfl (xF_a8 hW) (by omega) ?_
  rw [show (s.1 8) (((30 * (t : Int)) + (i : Int))).toNat = ((mst s).2.1 ((mst s).2.2.1 t i) 2) from by rw [e1]; rfl]
  have hfl : 0 < ((mst s).2.1 ((mst s).2.2.1 t i) 2) ∧ ((mst s).2.1 ((mst s).2.2.1 t i) 2) < ((mst s).2.2.2.1 t) := by
    have z9 := (hT.f i hi).1 hkd
    refine ⟨?_, by omega⟩
    refine Classical.byContradiction fun z => ?_
    have z0 : ((mst s).2.1 ((mst s).2.2.1 t i) 2) = 0 := by omega
    rw [z0] at z9
    have z8 := hT.r.1
    have z7 : ((mst s).2.1 ((mst s).2.2.1 t 0) 0) = 1 := z9.2.2
    omega
  refine g_Vn (z := yMd_tell) (e := 1) (A := [aI (((mst s).2.1 ((mst s).2.2.1 t i) 2))]) (rest := [])  rfl rfl rfl rfl rfl rfl (by omega) (xF_ob hW) hW.b0 (m_tell (s := s) hM ht hb hT hW (((mst s).2.1 ((mst s).2.2.1 t i) 2)) hfl.1 hfl.2) ?_
  intro hh13 hq
  obtain ⟨W2, n2, C2, hW, hw2, hn2⟩ := hq
  refine g_iconst (n := 0) rfl (by decide) ?_
  refine g_istore (L' := [aR m0, aI (b * 512), aI (((30 * (t : Int)) + (i : Int))), aI c, aI sec, aI 0]) rfl rfl ?_
  have g3 := fun kk => hH (d := d + 1) (W := W2) (n := n2) (C := C2) (Q := RV none (fun h2 => ∃ P' W' n' C', WM B m0 h2 (xF s P' W' n' C') ∧ PL P' (hdrL (mst s) t i l b))) (b * 512) ((30 * (t : Int)) + (i : Int)) c (sec) PP7 (by omega) (by omega) (by omega) (by omega) kk n2.toNat 0 _ (by omega) (by omega) (by omega) (by rw [cy_0]; exact hW)
  rw [show (0 : Int) + 0 = 0 by omega] at g3
  refine g3 (fun h hW => ?_)
  clear g3
  have hp8 : PL (cyW W2 PP7 (b * 512 + 157) 0 n2) (ovl X7 (b * 512 + 157) (pth (mst s) t (((mst s).2.1 ((mst s).2.2.1 t i) 2)))) := hp7.ovl (fun j hj => by rw [← hw2, show (0 : Int).toNat + j = j by simp]; exact (oF_get (by omega)).symm) hn2 (by omega) (by omega)
  have hx8 : (ovl X7 (b * 512 + 157) (pth (mst s) t (((mst s).2.1 ((mst s).2.2.1 t i) 2)))).length = l.length := (ovl_len _ _ _).trans hx7
  generalize hPP8 : cyW W2 PP7 (b * 512 + 157) 0 n2 = PP8 at hW hp8
  generalize hX8 : ovl X7 (b * 512 + 157) (pth (mst s) t (((mst s).2.1 ((mst s).2.2.1 t i) 2))) = X8 at hp8 hx8
  clear hp7 hx7
  refine g_iconst (n := 0) rfl (by decide) ?_
  refine g_istore (L' := [aR m0, aI (b * 512), aI (((30 * (t : Int)) + (i : Int))), aI c, aI sec, aI 0]) rfl rfl ?_
  refine hMk (d := d) (Q := RV none (fun h2 => ∃ P' W' n' C', WM B m0 h2 (xF s P' W' n' C') ∧ PL P' (hdrL (mst s) t i l b))) (b * 512) ((30 * (t : Int)) + (i : Int)) c (sec) PP8 (by omega) (by omega) (fun h hW => ?_) 8 0 _ (by omega) (by omega) (by omega) (by rw [cy_0]; exact hW)
  have hp9 : PL (cyW mkf PP8 (b * 512 + 257) 0 8) (pmrk X8 (b * 512 + 257)) := fun j hj => by
    rw [pmrk_len] at hj
    unfold pmrk
    rw [oF_get hj]
    unfold cyW
    by_cases z : b * 512 + 257 ≤ (j : Int) ∧ (j : Int) < b * 512 + 257 + 8
    · rw [if_pos z, if_pos z]
      congr 1
      omega
    · rw [if_neg z, if_neg z]
      exact hp8 j hj
  have hx9 : (pmrk X8 (b * 512 + 257)).length = l.length := (pmrk_len _ _).trans hx8
  generalize hPP9 : cyW mkf PP8 (b * 512 + 257) 0 8 = PP9 at hW hp9
  generalize hX9 : pmrk X8 (b * 512 + 257) = X9 at hp9 hx9
  clear hp8 hx8
  refine g_aload_n rfl rfl ?_
  refine g_iload_n rfl rfl ?_
  refine g_sipush (n := 329) rfl (by decide) ?_
  refine g_iadd rfl (by omega) ?_
  refine g_bipush (n := 7) rfl (by decide) ?_
  refine g_lconst (m := 0) rfl rfl ?_
  refine g_Vn (z := yMd_octal) (e := 1) (A := [aL 0, aI 7, aI ((b * 512) + 329)]) (rest := [])  rfl rfl rfl rfl rfl rfl (by omega) (xF_ob hW) hW.b0 (m_octal hW (b * 512 + 329) (0) 7 (by omega) (by omega) (by omega) (by omega) (by omega)) ?_
  intro hh1 hW
  have hp10 : PL (octF PP9 (b * 512 + 329) 7 (0)) (poct X9 (b * 512 + 329) 7 (0)) := hp9.oct (by omega) (by omega)
  have hx10 : (poct X9 (b * 512 + 329) 7 (0)).length = l.length := (poct_len _ _ _ _).trans hx9
  generalize hPP10 : octF PP9 (b * 512 + 329) 7 (0) = PP10 at hW hp10
  generalize hX10 : poct X9 (b * 512 + 329) 7 (0) = X10 at hp10 hx10
  clear hp9 hx9
  refine g_aload_n rfl rfl ?_
  refine g_iload_n rfl rfl ?_
  refine g_sipush (n := 337) rfl (by decide) ?_
  refine g_iadd rfl (by omega) ?_
  refine g_bipush (n := 7) rfl (by decide) ?_
  refine g_lconst (m := 0) rfl rfl ?_
  refine g_Vn (z := yMd_octal) (e := 1) (A := [aL 0, aI 7, aI ((b * 512) + 337)]) (rest := [])  rfl rfl rfl rfl rfl rfl (by omega) (xF_ob hW) hW.b0 (m_octal hW (b * 512 + 337) (0) 7 (by omega) (by omega) (by omega) (by omega) (by omega)) ?_
  intro hh2 hW
  have hp11 : PL (octF PP10 (b * 512 + 337) 7 (0)) (poct X10 (b * 512 + 337) 7 (0)) := hp10.oct (by omega) (by omega)
  have hx11 : (poct X10 (b * 512 + 337) 7 (0)).length = l.length := (poct_len _ _ _ _).trans hx10
  generalize hPP11 : octF PP10 (b * 512 + 337) 7 (0) = PP11 at hW hp11
  generalize hX11 : poct X10 (b * 512 + 337) 7 (0) = X11 at hp11 hx11
  clear hp10 hx10
  refine g_aload_n rfl rfl ?_
  refine g_iload_n rfl rfl ?_
  refine g_sipush (n := 148) rfl (by decide) ?_
  refine g_iadd rfl (by omega) ?_
  refine g_bipush (n := 6) rfl (by decide) ?_
  refine g_aload_n rfl rfl ?_
  refine g_iload_n rfl rfl ?_
  refine g_V (z := yMd_sum) (e := 1) (A := [aI (b * 512)]) (rest := [aI 6, aI ((b * 512) + 148), aR m0]) (v := aI (sums X11 b 512)) (P := fun h2 => h2 = hh2) rfl rfl rfl rfl rfl rfl (by omega) (xF_ob hW) hW.b0 ((by have k9 := m_sum (s := xF s PP11 W2 n2 C2) (d := d + 1 - 1) hM hW b hb0 (show b * 512 + 512 ≤ s.2 13 by omega); rw [hp11.pg (by omega)] at k9; exact k9)) ?_
  intro hh9 he9
  rw [he9]
  clear he9 hh9
  refine g_i2l rfl ?_
  have hs1 := sums_r X11 b 512
  have hs2 := sums_nn (l := X11) (b := b) hb0 512 (by omega)
  refine g_Vn (z := yMd_octal) (e := 1) (A := [aL (sums X11 b 512), aI 6, aI ((b * 512) + 148)]) (rest := [])  rfl rfl rfl rfl rfl rfl (by omega) (xF_ob hW) hW.b0 (m_octal hW (b * 512 + 148) (sums X11 b 512) 6 (by omega) (by omega) (by omega) (by omega) (by omega)) ?_
  intro hh3 hW
  have hp12 : PL (octF PP11 (b * 512 + 148) 6 (sums X11 b 512)) (poct X11 (b * 512 + 148) 6 (sums X11 b 512)) := hp11.oct (by omega) (by omega)
  have hx12 : (poct X11 (b * 512 + 148) 6 (sums X11 b 512)).length = l.length := (poct_len _ _ _ _).trans hx11
  generalize hPP12 : octF PP11 (b * 512 + 148) 6 (sums X11 b 512) = PP12 at hW hp12
  generalize hX12 : poct X11 (b * 512 + 148) 6 (sums X11 b 512) = X12 at hp12 hx12
  clear hp11 hx11
  refine g_aload_n rfl rfl ?_
  refine g_get (ci := 8) (kk := 12) rfl rfl (xF_ob hW) hW.b0 rfl ?_
  refine g_iload_n rfl rfl ?_
  refine g_sipush (n := 155) rfl (by decide) ?_
  refine g_iadd rfl (by omega) ?_
  refine g_bipush (n := 32) rfl (by decide) ?_
  refine g_bast rfl (xF_a12 hW) hW.bk (by omega) ?_
  generalize hg_hh4 : hput hh3 (m0 + 12) (eA 1 10240 (va_up PP12 ((b * 512) + 155).toNat (a8 32))) = hh4
  have hW := xF_12 hW (b * 512 + 155).toNat (a8_r 32)
  rw [hg_hh4] at hW
  have hp13 : PL (va_up PP12 (b * 512 + 155).toNat (a8 32)) (rput X12 (b * 512 + 155) 32) := hp12.put (by omega) (by omega)
  have hx13 : (rput X12 (b * 512 + 155) 32).length = l.length := (rput_len _ _ _).trans hx12
  generalize hPP13 : va_up PP12 (b * 512 + 155).toNat (a8 32) = PP13 at hW hp13
  generalize hX13 : rput X12 (b * 512 + 155) 32 = X13 at hp13 hx13
  clear hp12 hx12
  have e9 : hdrL (mst s) t i l b = X13 := by
    unfold hdrL pchk hd3
    rw [if_neg (by omega), if_pos hkd]
    unfold hd2 hd1
    rw [hkd, show typK 3 = 49 from rfl, hcln, hX1, hX2, hX3, hX4, hX5, hX6, hX7, hX8, hX9, hX10, hX11, hX12, hX13]
  exact r_v rfl rfl ⟨_, _, _, _, hW, by rw [e9]; exact hp13⟩
theorem m_head0 (hd2 : 2 ≤ d) (hM : MOK s) (ht : t < 2) (hb : s.2 11 = 30 * (t : Int)) (hT : TI (mst s) t) (hW : WM B m0 h (xF s P W n C)) (hP : PL P l) (hl : l.length = (s.2 13).toNat) {i : Nat} (h0 : 0 < i) (hi : i < ((mst s).2.2.2.1 t)) (hte : tel (mst s) t i) (b : Int) (hb0 : 0 ≤ b) (hbl : (b + 1) * 512 ≤ l.length) (hkd : ((mst s).2.1 ((mst s).2.2.1 t i) 0) = 0) : Cal d yMd_head [aR m0, aI (b * 512), aI ((30 * (t : Int)) + (i : Int))] h (RV none (fun h2 => ∃ P' W' n' C', WM B m0 h2 (xF s P' W' n' C') ∧ PL P' (hdrL (mst s) t i l b))) := by
  obtain ⟨d, rfl⟩ : ∃ e, d = e + 1 := ⟨d - 1, by omega⟩
  have hc := hT.c
  have hm := hM.2.2.2
  have hv := hT.v i hi
  have hbk := hT.b i hi
  have hsz := hM.1 (30 * t + i) (by omega)
  have ebd : ((mst s).1 (2 * (mst s).2.2.1 t i + 1)) = bdM s (30 * t + i) := mst_bd s ht (by omega)
  have hbl2 : (bdM s (30 * t + i)).length = (s.1 7 (30 * t + i)).toNat := oF_len _ _
  have hpl := hT.pl (i : Int)
  have hpp := pln_pth (mst s) t i
  have hpf := pln_pth (mst s) t (((mst s).2.1 ((mst s).2.2.1 t i) 2))
  have hpe := hT.pne h0 hi
  have hp1 : 0 < (pth (mst s) t i).length := List.length_pos_iff.mpr hpe
  have hcp := cutP_pos hT h0 hi
  have hte1 := hte.1
  have hte2 := hte.2
  have e1 : (((30 * (t : Int)) + (i : Int))).toNat = 30 * t + i := by omega
  have hk1 : s.1 1 (30 * t + i) = 0 := hkd
  have hcln : ((cln (mst s) t i : Nat) : Int) = 0 := by
    unfold cln
    rw [if_neg (by rw [hkd]; decide)]
    rfl
  show Go _ _ 0 [aR m0, aI (b * 512), aI ((30 * (t : Int)) + (i : Int)), none, none, none] [] _ _
  refine g_aload_n rfl rfl ?_
  refine g_iload_n rfl rfl ?_
  refine g_aload_n rfl rfl ?_
  refine g_get (ci := 8) (kk := 11) rfl rfl (xF_ob hW) hW.b0 rfl ?_
  rw [show s.2 11 = 30 * (t : Int) from hb]
  refine g_isub rfl (by omega) ?_
  rw [show ((30 * (t : Int)) + (i : Int)) - 30 * (t : Int) = (i : Int) by omega]
  refine g_Vn (z := yMd_tell) (e := 1) (A := [aI ((i : Int))]) (rest := [])  rfl rfl rfl rfl rfl rfl (by omega) (xF_ob hW) hW.b0 (m_tell (s := s) hM ht hb hT hW (i : Int) (by omega) (by omega)) ?_
  intro hh1 hq
  obtain ⟨W1, n1, C1, hW, hw1, hn1⟩ := hq
  generalize hpd : pth (mst s) t (i : Int) = p at *
  have hcm : cutM p = if p.length ≤ 100 then 0 else pk (cutP p = -1 ∨ 155 < cutP p) (-1) (cutP p) := rfl
  have hcc : (p.length ≤ 100 ∧ cutM p = 0 ∧ cutW p = -1) ∨ (0 < cutM p ∧ cutM p ≤ 155 ∧ cutW p = cutM p ∧ cutM p < p.length ∧ (p.length : Int) ≤ cutM p + 101) := by
    by_cases z : p.length ≤ 100
    · left
      exact ⟨z, by rw [hcm, if_pos z], by unfold cutW; rw [if_neg (by omega)]⟩
    · right
      have y := hte1 (by omega)
      have y2 := cutP_r y.1
      have e : cutM p = cutP p := by rw [hcm, if_neg z, pk_f (fun q => by omega)]
      rw [e]
      exact ⟨by omega, y.2, by unfold cutW; rw [if_pos (by omega)], by omega, by omega⟩
  generalize hcu : cutM p = c at *
  refine g_aload_n rfl rfl ?_
  refine g_V (z := yMd_cutOf) (e := 1) (A := []) (rest := []) (v := aI c) (P := fun h2 => h2 = hh1) rfl rfl rfl rfl rfl rfl (by omega) (xF_ob hW) hW.b0 ((by have k9 := m_cutOf (s := xF s P W1 n1 C1) (d := d + 1 - 1) hW (show 0 ≤ n1 by omega) (show n1 ≤ 3200 by omega); rw [wy_x, hw1, hcu] at k9; exact k9)) ?_
  intro hh9 he9
  rw [he9]
  clear he9 hh9
  refine g_istore_n (L' := [aR m0, aI (b * 512), aI (((30 * (t : Int)) + (i : Int))), aI c, none, none]) rfl rfl ?_
  refine g_iload_n rfl rfl ?_
  refine g_ifle rfl rfl (fun c2 => ?_) (fun c2 => ?_)
  · skip
    have yc := c2
    refine g_iconst (n := 0) rfl (by decide) ?_
    refine g_istore (L' := [aR m0, aI (b * 512), aI (((30 * (t : Int)) + (i : Int))), aI c, aI 0, none]) rfl rfl ?_
    refine g_iload rfl rfl ?_
    refine g_istore (L' := [aR m0, aI (b * 512), aI (((30 * (t : Int)) + (i : Int))), aI c, aI 0, aI 0]) rfl rfl ?_
    have hps := hP.ppx (W := W1) (n := n1) (p := p) (att := b * 512) (c := c) (sec := 0) hw1 hn1 (by omega) (by omega) (by omega)
    refine (show Go (d + 1) yMd_head 32 [aR m0, aI (b * 512), aI ((30 * (t : Int)) + (i : Int)), aI c, aI (0), aI (0)] [] _ _ from ?_)
    have g1 := fun kk => hA (d := d + 1) (W := W1) (n := n1) (C := C1) (Q := RV none (fun h2 => ∃ P' W' n' C', WM B m0 h2 (xF s P' W' n' C') ∧ PL P' (hdrL (mst s) t i l b))) (b * 512) ((30 * (t : Int)) + (i : Int)) c (0) P (by omega) (by omega) (by omega) (by omega) (by omega) (by omega) kk (n1 - (0)).toNat 0 _ (by omega) (by omega) (by omega) (by rw [cy_0]; exact hW)
    rw [show ((0) : Int) + 0 = 0 by omega] at g1
    refine g1 (fun h hW => ?_)
    clear g1
    generalize hPA : cyW W1 P (b * 512) (0) (n1 - (0)) = PA at *
    refine g_iconst (n := 0) rfl (by decide) ?_
    refine g_istore (L' := [aR m0, aI (b * 512), aI (((30 * (t : Int)) + (i : Int))), aI c, aI 0, aI 0]) rfl rfl ?_
    have g2 := fun kk => hB (d := d + 1) (W := W1) (n := n1) (C := C1) (Q := RV none (fun h2 => ∃ P' W' n' C', WM B m0 h2 (xF s P' W' n' C') ∧ PL P' (hdrL (mst s) t i l b))) (b * 512) ((30 * (t : Int)) + (i : Int)) c (0) PA (by omega) (by omega) (by omega) (by omega) kk c.toNat 0 _ (by omega) (by omega) (by omega) (by rw [cy_0]; exact hW)
    rw [show (0 : Int) + 0 = 0 by omega] at g2
    refine g2 (fun h hW => ?_)
    clear g2
    generalize hPB : cyW W1 PA (b * 512 + 345) 0 c = PB at *
    have hx1 : (pph l (b * 512) p).length = l.length := pph_len _ _ _
    exact m_hdt0 (d := d) hM ht hb hT hW hps hx1 hl h0 hi hte b hb0 hbl hkd (by rw [hpd]) c _ _
  · skip
    have yc := c2
    refine g_iload_n rfl rfl ?_
    refine g_iconst (n := 1) rfl (by decide) ?_
    refine g_iadd rfl (by omega) ?_
    refine g_goto rfl rfl ?_
    refine g_istore (L' := [aR m0, aI (b * 512), aI (((30 * (t : Int)) + (i : Int))), aI c, aI (c + 1), none]) rfl rfl ?_
    refine g_iload rfl rfl ?_
    refine g_istore (L' := [aR m0, aI (b * 512), aI (((30 * (t : Int)) + (i : Int))), aI c, aI (c + 1), aI (c + 1)]) rfl rfl ?_
    have hps := hP.ppx (W := W1) (n := n1) (p := p) (att := b * 512) (c := c) (sec := c + 1) hw1 hn1 (by omega) (by omega) (by omega)
    refine (show Go (d + 1) yMd_head 32 [aR m0, aI (b * 512), aI ((30 * (t : Int)) + (i : Int)), aI c, aI (c + 1), aI (c + 1)] [] _ _ from ?_)
    have g1 := fun kk => hA (d := d + 1) (W := W1) (n := n1) (C := C1) (Q := RV none (fun h2 => ∃ P' W' n' C', WM B m0 h2 (xF s P' W' n' C') ∧ PL P' (hdrL (mst s) t i l b))) (b * 512) ((30 * (t : Int)) + (i : Int)) c (c + 1) P (by omega) (by omega) (by omega) (by omega) (by omega) (by omega) kk (n1 - (c + 1)).toNat 0 _ (by omega) (by omega) (by omega) (by rw [cy_0]; exact hW)
    rw [show ((c + 1) : Int) + 0 = c + 1 by omega] at g1
    refine g1 (fun h hW => ?_)
    clear g1
    generalize hPA : cyW W1 P (b * 512) (c + 1) (n1 - (c + 1)) = PA at *
    refine g_iconst (n := 0) rfl (by decide) ?_
    refine g_istore (L' := [aR m0, aI (b * 512), aI (((30 * (t : Int)) + (i : Int))), aI c, aI (c + 1), aI 0]) rfl rfl ?_
    have g2 := fun kk => hB (d := d + 1) (W := W1) (n := n1) (C := C1) (Q := RV none (fun h2 => ∃ P' W' n' C', WM B m0 h2 (xF s P' W' n' C') ∧ PL P' (hdrL (mst s) t i l b))) (b * 512) ((30 * (t : Int)) + (i : Int)) c (c + 1) PA (by omega) (by omega) (by omega) (by omega) kk c.toNat 0 _ (by omega) (by omega) (by omega) (by rw [cy_0]; exact hW)
    rw [show (0 : Int) + 0 = 0 by omega] at g2
    refine g2 (fun h hW => ?_)
    clear g2
    generalize hPB : cyW W1 PA (b * 512 + 345) 0 c = PB at *
    have hx1 : (pph l (b * 512) p).length = l.length := pph_len _ _ _
    exact m_hdt0 (d := d) hM ht hb hT hW hps hx1 hl h0 hi hte b hb0 hbl hkd (by rw [hpd]) c _ _
theorem m_head1 (hd2 : 2 ≤ d) (hM : MOK s) (ht : t < 2) (hb : s.2 11 = 30 * (t : Int)) (hT : TI (mst s) t) (hW : WM B m0 h (xF s P W n C)) (hP : PL P l) (hl : l.length = (s.2 13).toNat) {i : Nat} (h0 : 0 < i) (hi : i < ((mst s).2.2.2.1 t)) (hte : tel (mst s) t i) (b : Int) (hb0 : 0 ≤ b) (hbl : (b + 1) * 512 ≤ l.length) (hkd : ((mst s).2.1 ((mst s).2.2.1 t i) 0) = 1) : Cal d yMd_head [aR m0, aI (b * 512), aI ((30 * (t : Int)) + (i : Int))] h (RV none (fun h2 => ∃ P' W' n' C', WM B m0 h2 (xF s P' W' n' C') ∧ PL P' (hdrL (mst s) t i l b))) := by
  obtain ⟨d, rfl⟩ : ∃ e, d = e + 1 := ⟨d - 1, by omega⟩
  have hc := hT.c
  have hm := hM.2.2.2
  have hv := hT.v i hi
  have hbk := hT.b i hi
  have hsz := hM.1 (30 * t + i) (by omega)
  have ebd : ((mst s).1 (2 * (mst s).2.2.1 t i + 1)) = bdM s (30 * t + i) := mst_bd s ht (by omega)
  have hbl2 : (bdM s (30 * t + i)).length = (s.1 7 (30 * t + i)).toNat := oF_len _ _
  have hpl := hT.pl (i : Int)
  have hpp := pln_pth (mst s) t i
  have hpf := pln_pth (mst s) t (((mst s).2.1 ((mst s).2.2.1 t i) 2))
  have hpe := hT.pne h0 hi
  have hp1 : 0 < (pth (mst s) t i).length := List.length_pos_iff.mpr hpe
  have hcp := cutP_pos hT h0 hi
  have hte1 := hte.1
  have hte2 := hte.2
  have e1 : (((30 * (t : Int)) + (i : Int))).toNat = 30 * t + i := by omega
  have hk1 : s.1 1 (30 * t + i) = 1 := hkd
  have hcln : ((cln (mst s) t i : Nat) : Int) = s.1 7 (30 * t + i) := by
    unfold cln
    rw [if_pos hkd]
    rw [ebd, hbl2]; omega
  show Go _ _ 0 [aR m0, aI (b * 512), aI ((30 * (t : Int)) + (i : Int)), none, none, none] [] _ _
  refine g_aload_n rfl rfl ?_
  refine g_iload_n rfl rfl ?_
  refine g_aload_n rfl rfl ?_
  refine g_get (ci := 8) (kk := 11) rfl rfl (xF_ob hW) hW.b0 rfl ?_
  rw [show s.2 11 = 30 * (t : Int) from hb]
  refine g_isub rfl (by omega) ?_
  rw [show ((30 * (t : Int)) + (i : Int)) - 30 * (t : Int) = (i : Int) by omega]
  refine g_Vn (z := yMd_tell) (e := 1) (A := [aI ((i : Int))]) (rest := [])  rfl rfl rfl rfl rfl rfl (by omega) (xF_ob hW) hW.b0 (m_tell (s := s) hM ht hb hT hW (i : Int) (by omega) (by omega)) ?_
  intro hh1 hq
  obtain ⟨W1, n1, C1, hW, hw1, hn1⟩ := hq
  generalize hpd : pth (mst s) t (i : Int) = p at *
  have hcm : cutM p = if p.length ≤ 100 then 0 else pk (cutP p = -1 ∨ 155 < cutP p) (-1) (cutP p) := rfl
  have hcc : (p.length ≤ 100 ∧ cutM p = 0 ∧ cutW p = -1) ∨ (0 < cutM p ∧ cutM p ≤ 155 ∧ cutW p = cutM p ∧ cutM p < p.length ∧ (p.length : Int) ≤ cutM p + 101) := by
    by_cases z : p.length ≤ 100
    · left
      exact ⟨z, by rw [hcm, if_pos z], by unfold cutW; rw [if_neg (by omega)]⟩
    · right
      have y := hte1 (by omega)
      have y2 := cutP_r y.1
      have e : cutM p = cutP p := by rw [hcm, if_neg z, pk_f (fun q => by omega)]
      rw [e]
      exact ⟨by omega, y.2, by unfold cutW; rw [if_pos (by omega)], by omega, by omega⟩
  generalize hcu : cutM p = c at *
  refine g_aload_n rfl rfl ?_
  refine g_V (z := yMd_cutOf) (e := 1) (A := []) (rest := []) (v := aI c) (P := fun h2 => h2 = hh1) rfl rfl rfl rfl rfl rfl (by omega) (xF_ob hW) hW.b0 ((by have k9 := m_cutOf (s := xF s P W1 n1 C1) (d := d + 1 - 1) hW (show 0 ≤ n1 by omega) (show n1 ≤ 3200 by omega); rw [wy_x, hw1, hcu] at k9; exact k9)) ?_
  intro hh9 he9
  rw [he9]
  clear he9 hh9
  refine g_istore_n (L' := [aR m0, aI (b * 512), aI (((30 * (t : Int)) + (i : Int))), aI c, none, none]) rfl rfl ?_
  refine g_iload_n rfl rfl ?_
  refine g_ifle rfl rfl (fun c2 => ?_) (fun c2 => ?_)
  · skip
    have yc := c2
    refine g_iconst (n := 0) rfl (by decide) ?_
    refine g_istore (L' := [aR m0, aI (b * 512), aI (((30 * (t : Int)) + (i : Int))), aI c, aI 0, none]) rfl rfl ?_
    refine g_iload rfl rfl ?_
    refine g_istore (L' := [aR m0, aI (b * 512), aI (((30 * (t : Int)) + (i : Int))), aI c, aI 0, aI 0]) rfl rfl ?_
    have hps := hP.ppx (W := W1) (n := n1) (p := p) (att := b * 512) (c := c) (sec := 0) hw1 hn1 (by omega) (by omega) (by omega)
    refine (show Go (d + 1) yMd_head 32 [aR m0, aI (b * 512), aI ((30 * (t : Int)) + (i : Int)), aI c, aI (0), aI (0)] [] _ _ from ?_)
    have g1 := fun kk => hA (d := d + 1) (W := W1) (n := n1) (C := C1) (Q := RV none (fun h2 => ∃ P' W' n' C', WM B m0 h2 (xF s P' W' n' C') ∧ PL P' (hdrL (mst s) t i l b))) (b * 512) ((30 * (t : Int)) + (i : Int)) c (0) P (by omega) (by omega) (by omega) (by omega) (by omega) (by omega) kk (n1 - (0)).toNat 0 _ (by omega) (by omega) (by omega) (by rw [cy_0]; exact hW)
    rw [show ((0) : Int) + 0 = 0 by omega] at g1
    refine g1 (fun h hW => ?_)
    clear g1
    generalize hPA : cyW W1 P (b * 512) (0) (n1 - (0)) = PA at *
    refine g_iconst (n := 0) rfl (by decide) ?_
    refine g_istore (L' := [aR m0, aI (b * 512), aI (((30 * (t : Int)) + (i : Int))), aI c, aI 0, aI 0]) rfl rfl ?_
    have g2 := fun kk => hB (d := d + 1) (W := W1) (n := n1) (C := C1) (Q := RV none (fun h2 => ∃ P' W' n' C', WM B m0 h2 (xF s P' W' n' C') ∧ PL P' (hdrL (mst s) t i l b))) (b * 512) ((30 * (t : Int)) + (i : Int)) c (0) PA (by omega) (by omega) (by omega) (by omega) kk c.toNat 0 _ (by omega) (by omega) (by omega) (by rw [cy_0]; exact hW)
    rw [show (0 : Int) + 0 = 0 by omega] at g2
    refine g2 (fun h hW => ?_)
    clear g2
    generalize hPB : cyW W1 PA (b * 512 + 345) 0 c = PB at *
    have hx1 : (pph l (b * 512) p).length = l.length := pph_len _ _ _
    exact m_hdt1 (d := d) hM ht hb hT hW hps hx1 hl h0 hi hte b hb0 hbl hkd (by rw [hpd]) c _ _
  · skip
    have yc := c2
    refine g_iload_n rfl rfl ?_
    refine g_iconst (n := 1) rfl (by decide) ?_
    refine g_iadd rfl (by omega) ?_
    refine g_goto rfl rfl ?_
    refine g_istore (L' := [aR m0, aI (b * 512), aI (((30 * (t : Int)) + (i : Int))), aI c, aI (c + 1), none]) rfl rfl ?_
    refine g_iload rfl rfl ?_
    refine g_istore (L' := [aR m0, aI (b * 512), aI (((30 * (t : Int)) + (i : Int))), aI c, aI (c + 1), aI (c + 1)]) rfl rfl ?_
    have hps := hP.ppx (W := W1) (n := n1) (p := p) (att := b * 512) (c := c) (sec := c + 1) hw1 hn1 (by omega) (by omega) (by omega)
    refine (show Go (d + 1) yMd_head 32 [aR m0, aI (b * 512), aI ((30 * (t : Int)) + (i : Int)), aI c, aI (c + 1), aI (c + 1)] [] _ _ from ?_)
    have g1 := fun kk => hA (d := d + 1) (W := W1) (n := n1) (C := C1) (Q := RV none (fun h2 => ∃ P' W' n' C', WM B m0 h2 (xF s P' W' n' C') ∧ PL P' (hdrL (mst s) t i l b))) (b * 512) ((30 * (t : Int)) + (i : Int)) c (c + 1) P (by omega) (by omega) (by omega) (by omega) (by omega) (by omega) kk (n1 - (c + 1)).toNat 0 _ (by omega) (by omega) (by omega) (by rw [cy_0]; exact hW)
    rw [show ((c + 1) : Int) + 0 = c + 1 by omega] at g1
    refine g1 (fun h hW => ?_)
    clear g1
    generalize hPA : cyW W1 P (b * 512) (c + 1) (n1 - (c + 1)) = PA at *
    refine g_iconst (n := 0) rfl (by decide) ?_
    refine g_istore (L' := [aR m0, aI (b * 512), aI (((30 * (t : Int)) + (i : Int))), aI c, aI (c + 1), aI 0]) rfl rfl ?_
    have g2 := fun kk => hB (d := d + 1) (W := W1) (n := n1) (C := C1) (Q := RV none (fun h2 => ∃ P' W' n' C', WM B m0 h2 (xF s P' W' n' C') ∧ PL P' (hdrL (mst s) t i l b))) (b * 512) ((30 * (t : Int)) + (i : Int)) c (c + 1) PA (by omega) (by omega) (by omega) (by omega) kk c.toNat 0 _ (by omega) (by omega) (by omega) (by rw [cy_0]; exact hW)
    rw [show (0 : Int) + 0 = 0 by omega] at g2
    refine g2 (fun h hW => ?_)
    clear g2
    generalize hPB : cyW W1 PA (b * 512 + 345) 0 c = PB at *
    have hx1 : (pph l (b * 512) p).length = l.length := pph_len _ _ _
    exact m_hdt1 (d := d) hM ht hb hT hW hps hx1 hl h0 hi hte b hb0 hbl hkd (by rw [hpd]) c _ _
theorem m_head2 (hd2 : 2 ≤ d) (hM : MOK s) (ht : t < 2) (hb : s.2 11 = 30 * (t : Int)) (hT : TI (mst s) t) (hW : WM B m0 h (xF s P W n C)) (hP : PL P l) (hl : l.length = (s.2 13).toNat) {i : Nat} (h0 : 0 < i) (hi : i < ((mst s).2.2.2.1 t)) (hte : tel (mst s) t i) (b : Int) (hb0 : 0 ≤ b) (hbl : (b + 1) * 512 ≤ l.length) (hkd : ((mst s).2.1 ((mst s).2.2.1 t i) 0) = 2) : Cal d yMd_head [aR m0, aI (b * 512), aI ((30 * (t : Int)) + (i : Int))] h (RV none (fun h2 => ∃ P' W' n' C', WM B m0 h2 (xF s P' W' n' C') ∧ PL P' (hdrL (mst s) t i l b))) := by
  obtain ⟨d, rfl⟩ : ∃ e, d = e + 1 := ⟨d - 1, by omega⟩
  have hc := hT.c
  have hm := hM.2.2.2
  have hv := hT.v i hi
  have hbk := hT.b i hi
  have hsz := hM.1 (30 * t + i) (by omega)
  have ebd : ((mst s).1 (2 * (mst s).2.2.1 t i + 1)) = bdM s (30 * t + i) := mst_bd s ht (by omega)
  have hbl2 : (bdM s (30 * t + i)).length = (s.1 7 (30 * t + i)).toNat := oF_len _ _
  have hpl := hT.pl (i : Int)
  have hpp := pln_pth (mst s) t i
  have hpf := pln_pth (mst s) t (((mst s).2.1 ((mst s).2.2.1 t i) 2))
  have hpe := hT.pne h0 hi
  have hp1 : 0 < (pth (mst s) t i).length := List.length_pos_iff.mpr hpe
  have hcp := cutP_pos hT h0 hi
  have hte1 := hte.1
  have hte2 := hte.2
  have e1 : (((30 * (t : Int)) + (i : Int))).toNat = 30 * t + i := by omega
  have hk1 : s.1 1 (30 * t + i) = 2 := hkd
  have hcln : ((cln (mst s) t i : Nat) : Int) = 0 := by
    unfold cln
    rw [if_neg (by rw [hkd]; decide)]
    rfl
  show Go _ _ 0 [aR m0, aI (b * 512), aI ((30 * (t : Int)) + (i : Int)), none, none, none] [] _ _
  refine g_aload_n rfl rfl ?_
  refine g_iload_n rfl rfl ?_
  refine g_aload_n rfl rfl ?_
  refine g_get (ci := 8) (kk := 11) rfl rfl (xF_ob hW) hW.b0 rfl ?_
  rw [show s.2 11 = 30 * (t : Int) from hb]
  refine g_isub rfl (by omega) ?_
  rw [show ((30 * (t : Int)) + (i : Int)) - 30 * (t : Int) = (i : Int) by omega]
  refine g_Vn (z := yMd_tell) (e := 1) (A := [aI ((i : Int))]) (rest := [])  rfl rfl rfl rfl rfl rfl (by omega) (xF_ob hW) hW.b0 (m_tell (s := s) hM ht hb hT hW (i : Int) (by omega) (by omega)) ?_
  intro hh1 hq
  obtain ⟨W1, n1, C1, hW, hw1, hn1⟩ := hq
  generalize hpd : pth (mst s) t (i : Int) = p at *
  have hcm : cutM p = if p.length ≤ 100 then 0 else pk (cutP p = -1 ∨ 155 < cutP p) (-1) (cutP p) := rfl
  have hcc : (p.length ≤ 100 ∧ cutM p = 0 ∧ cutW p = -1) ∨ (0 < cutM p ∧ cutM p ≤ 155 ∧ cutW p = cutM p ∧ cutM p < p.length ∧ (p.length : Int) ≤ cutM p + 101) := by
    by_cases z : p.length ≤ 100
    · left
      exact ⟨z, by rw [hcm, if_pos z], by unfold cutW; rw [if_neg (by omega)]⟩
    · right
      have y := hte1 (by omega)
      have y2 := cutP_r y.1
      have e : cutM p = cutP p := by rw [hcm, if_neg z, pk_f (fun q => by omega)]
      rw [e]
      exact ⟨by omega, y.2, by unfold cutW; rw [if_pos (by omega)], by omega, by omega⟩
  generalize hcu : cutM p = c at *
  refine g_aload_n rfl rfl ?_
  refine g_V (z := yMd_cutOf) (e := 1) (A := []) (rest := []) (v := aI c) (P := fun h2 => h2 = hh1) rfl rfl rfl rfl rfl rfl (by omega) (xF_ob hW) hW.b0 ((by have k9 := m_cutOf (s := xF s P W1 n1 C1) (d := d + 1 - 1) hW (show 0 ≤ n1 by omega) (show n1 ≤ 3200 by omega); rw [wy_x, hw1, hcu] at k9; exact k9)) ?_
  intro hh9 he9
  rw [he9]
  clear he9 hh9
  refine g_istore_n (L' := [aR m0, aI (b * 512), aI (((30 * (t : Int)) + (i : Int))), aI c, none, none]) rfl rfl ?_
  refine g_iload_n rfl rfl ?_
  refine g_ifle rfl rfl (fun c2 => ?_) (fun c2 => ?_)
  · skip
    have yc := c2
    refine g_iconst (n := 0) rfl (by decide) ?_
    refine g_istore (L' := [aR m0, aI (b * 512), aI (((30 * (t : Int)) + (i : Int))), aI c, aI 0, none]) rfl rfl ?_
    refine g_iload rfl rfl ?_
    refine g_istore (L' := [aR m0, aI (b * 512), aI (((30 * (t : Int)) + (i : Int))), aI c, aI 0, aI 0]) rfl rfl ?_
    have hps := hP.ppx (W := W1) (n := n1) (p := p) (att := b * 512) (c := c) (sec := 0) hw1 hn1 (by omega) (by omega) (by omega)
    refine (show Go (d + 1) yMd_head 32 [aR m0, aI (b * 512), aI ((30 * (t : Int)) + (i : Int)), aI c, aI (0), aI (0)] [] _ _ from ?_)
    have g1 := fun kk => hA (d := d + 1) (W := W1) (n := n1) (C := C1) (Q := RV none (fun h2 => ∃ P' W' n' C', WM B m0 h2 (xF s P' W' n' C') ∧ PL P' (hdrL (mst s) t i l b))) (b * 512) ((30 * (t : Int)) + (i : Int)) c (0) P (by omega) (by omega) (by omega) (by omega) (by omega) (by omega) kk (n1 - (0)).toNat 0 _ (by omega) (by omega) (by omega) (by rw [cy_0]; exact hW)
    rw [show ((0) : Int) + 0 = 0 by omega] at g1
    refine g1 (fun h hW => ?_)
    clear g1
    generalize hPA : cyW W1 P (b * 512) (0) (n1 - (0)) = PA at *
    refine g_iconst (n := 0) rfl (by decide) ?_
    refine g_istore (L' := [aR m0, aI (b * 512), aI (((30 * (t : Int)) + (i : Int))), aI c, aI 0, aI 0]) rfl rfl ?_
    have g2 := fun kk => hB (d := d + 1) (W := W1) (n := n1) (C := C1) (Q := RV none (fun h2 => ∃ P' W' n' C', WM B m0 h2 (xF s P' W' n' C') ∧ PL P' (hdrL (mst s) t i l b))) (b * 512) ((30 * (t : Int)) + (i : Int)) c (0) PA (by omega) (by omega) (by omega) (by omega) kk c.toNat 0 _ (by omega) (by omega) (by omega) (by rw [cy_0]; exact hW)
    rw [show (0 : Int) + 0 = 0 by omega] at g2
    refine g2 (fun h hW => ?_)
    clear g2
    generalize hPB : cyW W1 PA (b * 512 + 345) 0 c = PB at *
    have hx1 : (pph l (b * 512) p).length = l.length := pph_len _ _ _
    exact m_hdt2 (d := d) hM ht hb hT hW hps hx1 hl h0 hi hte b hb0 hbl hkd (by rw [hpd]) c _ _
  · skip
    have yc := c2
    refine g_iload_n rfl rfl ?_
    refine g_iconst (n := 1) rfl (by decide) ?_
    refine g_iadd rfl (by omega) ?_
    refine g_goto rfl rfl ?_
    refine g_istore (L' := [aR m0, aI (b * 512), aI (((30 * (t : Int)) + (i : Int))), aI c, aI (c + 1), none]) rfl rfl ?_
    refine g_iload rfl rfl ?_
    refine g_istore (L' := [aR m0, aI (b * 512), aI (((30 * (t : Int)) + (i : Int))), aI c, aI (c + 1), aI (c + 1)]) rfl rfl ?_
    have hps := hP.ppx (W := W1) (n := n1) (p := p) (att := b * 512) (c := c) (sec := c + 1) hw1 hn1 (by omega) (by omega) (by omega)
    refine (show Go (d + 1) yMd_head 32 [aR m0, aI (b * 512), aI ((30 * (t : Int)) + (i : Int)), aI c, aI (c + 1), aI (c + 1)] [] _ _ from ?_)
    have g1 := fun kk => hA (d := d + 1) (W := W1) (n := n1) (C := C1) (Q := RV none (fun h2 => ∃ P' W' n' C', WM B m0 h2 (xF s P' W' n' C') ∧ PL P' (hdrL (mst s) t i l b))) (b * 512) ((30 * (t : Int)) + (i : Int)) c (c + 1) P (by omega) (by omega) (by omega) (by omega) (by omega) (by omega) kk (n1 - (c + 1)).toNat 0 _ (by omega) (by omega) (by omega) (by rw [cy_0]; exact hW)
    rw [show ((c + 1) : Int) + 0 = c + 1 by omega] at g1
    refine g1 (fun h hW => ?_)
    clear g1
    generalize hPA : cyW W1 P (b * 512) (c + 1) (n1 - (c + 1)) = PA at *
    refine g_iconst (n := 0) rfl (by decide) ?_
    refine g_istore (L' := [aR m0, aI (b * 512), aI (((30 * (t : Int)) + (i : Int))), aI c, aI (c + 1), aI 0]) rfl rfl ?_
    have g2 := fun kk => hB (d := d + 1) (W := W1) (n := n1) (C := C1) (Q := RV none (fun h2 => ∃ P' W' n' C', WM B m0 h2 (xF s P' W' n' C') ∧ PL P' (hdrL (mst s) t i l b))) (b * 512) ((30 * (t : Int)) + (i : Int)) c (c + 1) PA (by omega) (by omega) (by omega) (by omega) kk c.toNat 0 _ (by omega) (by omega) (by omega) (by rw [cy_0]; exact hW)
    rw [show (0 : Int) + 0 = 0 by omega] at g2
    refine g2 (fun h hW => ?_)
    clear g2
    generalize hPB : cyW W1 PA (b * 512 + 345) 0 c = PB at *
    have hx1 : (pph l (b * 512) p).length = l.length := pph_len _ _ _
    exact m_hdt2 (d := d) hM ht hb hT hW hps hx1 hl h0 hi hte b hb0 hbl hkd (by rw [hpd]) c _ _
theorem m_head3 (hd2 : 2 ≤ d) (hM : MOK s) (ht : t < 2) (hb : s.2 11 = 30 * (t : Int)) (hT : TI (mst s) t) (hW : WM B m0 h (xF s P W n C)) (hP : PL P l) (hl : l.length = (s.2 13).toNat) {i : Nat} (h0 : 0 < i) (hi : i < ((mst s).2.2.2.1 t)) (hte : tel (mst s) t i) (b : Int) (hb0 : 0 ≤ b) (hbl : (b + 1) * 512 ≤ l.length) (hkd : ((mst s).2.1 ((mst s).2.2.1 t i) 0) = 3) : Cal d yMd_head [aR m0, aI (b * 512), aI ((30 * (t : Int)) + (i : Int))] h (RV none (fun h2 => ∃ P' W' n' C', WM B m0 h2 (xF s P' W' n' C') ∧ PL P' (hdrL (mst s) t i l b))) := by
  obtain ⟨d, rfl⟩ : ∃ e, d = e + 1 := ⟨d - 1, by omega⟩
  have hc := hT.c
  have hm := hM.2.2.2
  have hv := hT.v i hi
  have hbk := hT.b i hi
  have hsz := hM.1 (30 * t + i) (by omega)
  have ebd : ((mst s).1 (2 * (mst s).2.2.1 t i + 1)) = bdM s (30 * t + i) := mst_bd s ht (by omega)
  have hbl2 : (bdM s (30 * t + i)).length = (s.1 7 (30 * t + i)).toNat := oF_len _ _
  have hpl := hT.pl (i : Int)
  have hpp := pln_pth (mst s) t i
  have hpf := pln_pth (mst s) t (((mst s).2.1 ((mst s).2.2.1 t i) 2))
  have hpe := hT.pne h0 hi
  have hp1 : 0 < (pth (mst s) t i).length := List.length_pos_iff.mpr hpe
  have hcp := cutP_pos hT h0 hi
  have hte1 := hte.1
  have hte2 := hte.2
  have e1 : (((30 * (t : Int)) + (i : Int))).toNat = 30 * t + i := by omega
  have hk1 : s.1 1 (30 * t + i) = 3 := hkd
  have hcln : ((cln (mst s) t i : Nat) : Int) = 0 := by
    unfold cln
    rw [if_neg (by rw [hkd]; decide)]
    rfl
  show Go _ _ 0 [aR m0, aI (b * 512), aI ((30 * (t : Int)) + (i : Int)), none, none, none] [] _ _
  refine g_aload_n rfl rfl ?_
  refine g_iload_n rfl rfl ?_
  refine g_aload_n rfl rfl ?_
  refine g_get (ci := 8) (kk := 11) rfl rfl (xF_ob hW) hW.b0 rfl ?_
  rw [show s.2 11 = 30 * (t : Int) from hb]
  refine g_isub rfl (by omega) ?_
  rw [show ((30 * (t : Int)) + (i : Int)) - 30 * (t : Int) = (i : Int) by omega]
  refine g_Vn (z := yMd_tell) (e := 1) (A := [aI ((i : Int))]) (rest := [])  rfl rfl rfl rfl rfl rfl (by omega) (xF_ob hW) hW.b0 (m_tell (s := s) hM ht hb hT hW (i : Int) (by omega) (by omega)) ?_
  intro hh1 hq
  obtain ⟨W1, n1, C1, hW, hw1, hn1⟩ := hq
  generalize hpd : pth (mst s) t (i : Int) = p at *
  have hcm : cutM p = if p.length ≤ 100 then 0 else pk (cutP p = -1 ∨ 155 < cutP p) (-1) (cutP p) := rfl
  have hcc : (p.length ≤ 100 ∧ cutM p = 0 ∧ cutW p = -1) ∨ (0 < cutM p ∧ cutM p ≤ 155 ∧ cutW p = cutM p ∧ cutM p < p.length ∧ (p.length : Int) ≤ cutM p + 101) := by
    by_cases z : p.length ≤ 100
    · left
      exact ⟨z, by rw [hcm, if_pos z], by unfold cutW; rw [if_neg (by omega)]⟩
    · right
      have y := hte1 (by omega)
      have y2 := cutP_r y.1
      have e : cutM p = cutP p := by rw [hcm, if_neg z, pk_f (fun q => by omega)]
      rw [e]
      exact ⟨by omega, y.2, by unfold cutW; rw [if_pos (by omega)], by omega, by omega⟩
  generalize hcu : cutM p = c at *
  refine g_aload_n rfl rfl ?_
  refine g_V (z := yMd_cutOf) (e := 1) (A := []) (rest := []) (v := aI c) (P := fun h2 => h2 = hh1) rfl rfl rfl rfl rfl rfl (by omega) (xF_ob hW) hW.b0 ((by have k9 := m_cutOf (s := xF s P W1 n1 C1) (d := d + 1 - 1) hW (show 0 ≤ n1 by omega) (show n1 ≤ 3200 by omega); rw [wy_x, hw1, hcu] at k9; exact k9)) ?_
  intro hh9 he9
  rw [he9]
  clear he9 hh9
  refine g_istore_n (L' := [aR m0, aI (b * 512), aI (((30 * (t : Int)) + (i : Int))), aI c, none, none]) rfl rfl ?_
  refine g_iload_n rfl rfl ?_
  refine g_ifle rfl rfl (fun c2 => ?_) (fun c2 => ?_)
  · skip
    have yc := c2
    refine g_iconst (n := 0) rfl (by decide) ?_
    refine g_istore (L' := [aR m0, aI (b * 512), aI (((30 * (t : Int)) + (i : Int))), aI c, aI 0, none]) rfl rfl ?_
    refine g_iload rfl rfl ?_
    refine g_istore (L' := [aR m0, aI (b * 512), aI (((30 * (t : Int)) + (i : Int))), aI c, aI 0, aI 0]) rfl rfl ?_
    have hps := hP.ppx (W := W1) (n := n1) (p := p) (att := b * 512) (c := c) (sec := 0) hw1 hn1 (by omega) (by omega) (by omega)
    refine (show Go (d + 1) yMd_head 32 [aR m0, aI (b * 512), aI ((30 * (t : Int)) + (i : Int)), aI c, aI (0), aI (0)] [] _ _ from ?_)
    have g1 := fun kk => hA (d := d + 1) (W := W1) (n := n1) (C := C1) (Q := RV none (fun h2 => ∃ P' W' n' C', WM B m0 h2 (xF s P' W' n' C') ∧ PL P' (hdrL (mst s) t i l b))) (b * 512) ((30 * (t : Int)) + (i : Int)) c (0) P (by omega) (by omega) (by omega) (by omega) (by omega) (by omega) kk (n1 - (0)).toNat 0 _ (by omega) (by omega) (by omega) (by rw [cy_0]; exact hW)
    rw [show ((0) : Int) + 0 = 0 by omega] at g1
    refine g1 (fun h hW => ?_)
    clear g1
    generalize hPA : cyW W1 P (b * 512) (0) (n1 - (0)) = PA at *
    refine g_iconst (n := 0) rfl (by decide) ?_
    refine g_istore (L' := [aR m0, aI (b * 512), aI (((30 * (t : Int)) + (i : Int))), aI c, aI 0, aI 0]) rfl rfl ?_
    have g2 := fun kk => hB (d := d + 1) (W := W1) (n := n1) (C := C1) (Q := RV none (fun h2 => ∃ P' W' n' C', WM B m0 h2 (xF s P' W' n' C') ∧ PL P' (hdrL (mst s) t i l b))) (b * 512) ((30 * (t : Int)) + (i : Int)) c (0) PA (by omega) (by omega) (by omega) (by omega) kk c.toNat 0 _ (by omega) (by omega) (by omega) (by rw [cy_0]; exact hW)
    rw [show (0 : Int) + 0 = 0 by omega] at g2
    refine g2 (fun h hW => ?_)
    clear g2
    generalize hPB : cyW W1 PA (b * 512 + 345) 0 c = PB at *
    have hx1 : (pph l (b * 512) p).length = l.length := pph_len _ _ _
    exact m_hdt3 (d := d) hM ht hb hT hW hps hx1 hl h0 hi hte b hb0 hbl hkd (by rw [hpd]) c _ _
  · skip
    have yc := c2
    refine g_iload_n rfl rfl ?_
    refine g_iconst (n := 1) rfl (by decide) ?_
    refine g_iadd rfl (by omega) ?_
    refine g_goto rfl rfl ?_
    refine g_istore (L' := [aR m0, aI (b * 512), aI (((30 * (t : Int)) + (i : Int))), aI c, aI (c + 1), none]) rfl rfl ?_
    refine g_iload rfl rfl ?_
    refine g_istore (L' := [aR m0, aI (b * 512), aI (((30 * (t : Int)) + (i : Int))), aI c, aI (c + 1), aI (c + 1)]) rfl rfl ?_
    have hps := hP.ppx (W := W1) (n := n1) (p := p) (att := b * 512) (c := c) (sec := c + 1) hw1 hn1 (by omega) (by omega) (by omega)
    refine (show Go (d + 1) yMd_head 32 [aR m0, aI (b * 512), aI ((30 * (t : Int)) + (i : Int)), aI c, aI (c + 1), aI (c + 1)] [] _ _ from ?_)
    have g1 := fun kk => hA (d := d + 1) (W := W1) (n := n1) (C := C1) (Q := RV none (fun h2 => ∃ P' W' n' C', WM B m0 h2 (xF s P' W' n' C') ∧ PL P' (hdrL (mst s) t i l b))) (b * 512) ((30 * (t : Int)) + (i : Int)) c (c + 1) P (by omega) (by omega) (by omega) (by omega) (by omega) (by omega) kk (n1 - (c + 1)).toNat 0 _ (by omega) (by omega) (by omega) (by rw [cy_0]; exact hW)
    rw [show ((c + 1) : Int) + 0 = c + 1 by omega] at g1
    refine g1 (fun h hW => ?_)
    clear g1
    generalize hPA : cyW W1 P (b * 512) (c + 1) (n1 - (c + 1)) = PA at *
    refine g_iconst (n := 0) rfl (by decide) ?_
    refine g_istore (L' := [aR m0, aI (b * 512), aI (((30 * (t : Int)) + (i : Int))), aI c, aI (c + 1), aI 0]) rfl rfl ?_
    have g2 := fun kk => hB (d := d + 1) (W := W1) (n := n1) (C := C1) (Q := RV none (fun h2 => ∃ P' W' n' C', WM B m0 h2 (xF s P' W' n' C') ∧ PL P' (hdrL (mst s) t i l b))) (b * 512) ((30 * (t : Int)) + (i : Int)) c (c + 1) PA (by omega) (by omega) (by omega) (by omega) kk c.toNat 0 _ (by omega) (by omega) (by omega) (by rw [cy_0]; exact hW)
    rw [show (0 : Int) + 0 = 0 by omega] at g2
    refine g2 (fun h hW => ?_)
    clear g2
    generalize hPB : cyW W1 PA (b * 512 + 345) 0 c = PB at *
    have hx1 : (pph l (b * 512) p).length = l.length := pph_len _ _ _
    exact m_hdt3 (d := d) hM ht hb hT hW hps hx1 hl h0 hi hte b hb0 hbl hkd (by rw [hpd]) c _ _
theorem m_head (hd2 : 2 ≤ d) (hM : MOK s) (ht : t < 2) (hb : s.2 11 = 30 * (t : Int)) (hT : TI (mst s) t) (hW : WM B m0 h (xF s P W n C)) (hP : PL P l) (hl : l.length = (s.2 13).toNat) {i : Nat} (h0 : 0 < i) (hi : i < ((mst s).2.2.2.1 t)) (hte : tel (mst s) t i) (b : Int) (hb0 : 0 ≤ b) (hbl : (b + 1) * 512 ≤ l.length) : Cal d yMd_head [aR m0, aI (b * 512), aI ((30 * (t : Int)) + (i : Int))] h (RV none (fun h2 => ∃ P' W' n' C', WM B m0 h2 (xF s P' W' n' C') ∧ PL P' (hdrL (mst s) t i l b))) := by
  have hk := hT.k i hi
  rcases (by omega : ((mst s).2.1 ((mst s).2.2.1 t i) 0) = 0 ∨ ((mst s).2.1 ((mst s).2.2.1 t i) 0) = 1 ∨ ((mst s).2.1 ((mst s).2.2.1 t i) 0) = 2 ∨ ((mst s).2.1 ((mst s).2.2.1 t i) 0) = 3) with q | q | q | q
  · exact m_head0 hd2 hM ht hb hT hW hP hl h0 hi hte b hb0 hbl q
  · exact m_head1 hd2 hM ht hb hT hW hP hl h0 hi hte b hb0 hbl q
  · exact m_head2 hd2 hM ht hb hT hW hP hl h0 hi hte b hb0 hbl q
  · exact m_head3 hd2 hM ht hb hT hW hP hl h0 hi hte b hb0 hbl q
end Md10
