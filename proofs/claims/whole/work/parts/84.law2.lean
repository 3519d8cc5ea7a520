/-! The law: one call of the script, on both sides. -/
def VV (b mk m0 o : Nat) (a : Nat) : Prop := a = b ∨ a = mk ∨ a = o ∨ (m0 ≤ a ∧ a ≤ m0 + 20)
def FX (b mk N L : Nat) (xs : Nat → Int) (m0 o : Nat) : Prop := b < N ∧ mk < N ∧ N ≤ m0 ∧ m0 + 20 < o ∧ b ≠ mk ∧ (∀ j, r32 (xs j)) ∧ L ≤ 3584
def LB (b mk N L : Nat) (xs : Nat → Int) (m0 o : Nat) (g : Nat → Nat) (cb sb : Nat) (h : AH) (st : CS) (s : MS) (F : Nat → Int) : Prop := WC (VV b mk m0 o, h.1, N, mk) h g st cb sb ∧ WM h m0 h s ∧ h.1 b = some (eA 0 L xs) ∧ h.1 mk = some (eA 1 8 mkf) ∧ h.1 o = some (eA 2 1 F)
def LI (b mk N L : Nat) (xs : Nat → Int) (m0 o : Nat) (g : Nat → Nat) (t cb sb : Nat) (h : AH) (st : CS) (s : MS) : Prop := ∃ F, LB b mk N L xs m0 o g cb sb h st s F ∧ MOK s ∧ SE st (mst s) t ∧ TI st t ∧ s.2 11 = 30 * (t : Int)
section Lw2
variable {b mk N L m0 o cb sb t : Nat} {xs : Nat → Int} {g : Nat → Nat} {h h2 h3 : AH} {st st1 : CS} {s s' : MS} {F : Nat → Int} {R : CS → Prop} {c v : Int} {Q : AO → AH → Prop}
theorem lc_self (x : Int) : a_lcmp x x = 0 := by
  unfold a_lcmp
  rw [if_neg (by omega), if_pos rfl]
theorem r64_lor (x y : Int) : r64 (a_lor x y) := ⟨Int64.le_toInt _, by have := Int64.toInt_lt (Int64.ofInt x ||| Int64.ofInt y); unfold a_lor; omega⟩
theorem WM.cp (hW : WM h m0 h s) (e2 : h2.2.2.2 = h.2.2.2) (ho : ∀ a, m0 ≤ a → a ≤ m0 + 20 → h2.1 a = h.1 a) : WM h2 m0 h2 s := by
  obtain ⟨w1, w2, w3, w4, w5, w6⟩ := hW
  exact ⟨rfl, fun _ _ => rfl, by rw [ho m0 (by omega) (by omega)]; exact w3, fun k h1 h2 => by rw [ho _ (by omega) (by omega)]; exact w4 k h1 h2, by rw [e2]; exact w5, w6⟩
theorem LB.w (hB : LB b mk N L xs m0 o g cb sb h st s F) (hX : FX b mk N L xs m0 o) (hq : WQ (VV b mk m0 o) N mk o g cb sb h R c v h2) : ∃ st1 F1, R st1 ∧ LB b mk N L xs m0 o g (cb + 1) (sb + 6) h2 st1 s F1 ∧ (c = 0 → F1 0 = v) := by
  obtain ⟨x1, x2, x3, x4, x5, x6⟩ := hX
  obtain ⟨b1, b2, b3, b4, b5⟩ := hB
  obtain ⟨st1, F1, q1, q2, q3, q4, q5⟩ := hq
  refine ⟨st1, F1, q2, ⟨q1, b2.cp (by rw [q1.bs, b1.bs]) (fun a a1 a2 => q5 a (Or.inr (Or.inr (Or.inr ⟨a1, a2⟩))) (by omega)), ?_, ?_, q3⟩, q4⟩
  · rw [q5 b (Or.inl rfl) (by omega)]
    exact b3
  · rw [q5 mk (Or.inr (Or.inl rfl)) (by omega)]
    exact b4
theorem LB.k (hB : LB b mk N L xs m0 o g cb sb h st s F) {cb' sb' : Nat} (q1 : WC (VV b mk m0 o, h.1, N, mk) h2 g st1 cb' sb') : LB b mk N L xs m0 o g cb' sb' h2 st1 s F := by
  obtain ⟨b1, b2, b3, b4, b5⟩ := hB
  have q5 : ∀ a, VV b mk m0 o a → h2.1 a = h.1 a := fun a ha => (q1.vk ha).1
  refine ⟨q1.fr rfl (fun _ _ => rfl), b2.cp (by rw [q1.bs, b1.bs]) (fun a a1 a2 => q5 a (Or.inr (Or.inr (Or.inr ⟨a1, a2⟩)))), ?_, ?_, ?_⟩
  · rw [q5 b (Or.inl rfl)]
    exact b3
  · rw [q5 mk (Or.inr (Or.inl rfl))]
    exact b4
  · rw [q5 o (Or.inr (Or.inr (Or.inl rfl)))]
    exact b5
theorem LB.w0 (hB : LB b mk N L xs m0 o g cb sb h st s F) (hq : WQ0 (VV b mk m0 o) N mk g cb sb h R h2) : ∃ st1, R st1 ∧ LB b mk N L xs m0 o g (cb + 1) (sb + 6) h2 st1 s F := by
  obtain ⟨b1, b2, b3, b4, b5⟩ := hB
  obtain ⟨st1, q1, q2, q5⟩ := hq
  refine ⟨st1, q2, q1, b2.cp (by rw [q1.bs, b1.bs]) (fun a a1 a2 => q5 a (Or.inr (Or.inr (Or.inr ⟨a1, a2⟩)))), ?_, ?_, ?_⟩
  · rw [q5 b (Or.inl rfl)]
    exact b3
  · rw [q5 mk (Or.inr (Or.inl rfl))]
    exact b4
  · rw [q5 o (Or.inr (Or.inr (Or.inl rfl)))]
    exact b5
theorem LB.m (hB : LB b mk N L xs m0 o g cb sb h st s F) (hX : FX b mk N L xs m0 o) (hW : WM h m0 h2 s') : LB b mk N L xs m0 o g cb sb h2 st s' F := by
  obtain ⟨x1, x2, x3, x4, x5, x6⟩ := hX
  obtain ⟨b1, b2, b3, b4, b5⟩ := hB
  have w1 := hW.1
  have w2 := hW.2.1
  refine ⟨b1.fr w1 (fun a ha => w2 a (Classical.byContradiction fun q => ha (Or.inr (Or.inr (Or.inr (by omega)))))), hW.rb, ?_, ?_, ?_⟩
  · rw [w2 b (by omega)]
    exact b3
  · rw [w2 mk (by omega)]
    exact b4
  · rw [w2 o (by omega)]
    exact b5
theorem LB.le (hB : LB b mk N L xs m0 o g cb sb h st s F) {cb' sb' : Nat} (h1 : cb ≤ cb') (h2 : sb ≤ sb') : LB b mk N L xs m0 o g cb' sb' h st s F := ⟨hB.1.le h1 h2, hB.2⟩
theorem LB.ok (hB : LB b mk N L xs m0 o g cb sb h st s F) : KOK (VV b mk m0 o, h.1, N, mk) := ⟨Or.inr (Or.inl rfl), hB.2.2.2.1⟩
theorem LB.pr (hB : LB b mk N L xs m0 o g cb sb h st s F) (ht : t < 2) (hS : SE st (mst s) t) (hT : TI st t) : PR st (mst s) t := by
  have hs := hB.1.shq
  refine ⟨hS, hT, ⟨fun i j hi hj e => hs.2.1 t i j ht hi hj e, fun i hi => ?_⟩, ⟨mst_inj s t, fun i hi => ?_⟩⟩
  · have := hs.1 t i ht hi
    omega
  · show 30 * t + i < 60
    omega
theorem se_t0 (hS : SE st (mst s) t) (hb : s.2 11 = 30 * (t : Int)) : st.2.2.2.2.2 0 = (t : Int) := by
  have e : s.2 11 / 30 = st.2.2.2.2.2 0 := hS.2.2.1
  omega
theorem lw_make (hX : FX b mk N L xs m0 o) (ht : t < 2) (hL : LI b mk N L xs m0 o g t cb sb h st s) (i : Int) (hi0 : 0 ≤ i) (hi7 : i + 7 ≤ (L : Int)) (w5 w6 : AV) (kk : ∀ (h : AH) (st : CS) (s : MS) (t : Nat) (w5 w6 : AV), t < 2 → LI b mk N L xs m0 o g t (cb + 1) (sb + 6) h st s → Go 10 yLw_law 1129 [aR b, aR (g 533), aR m0, aR o, aI i, w5, w6] [] h Q) : Go 10 yLw_law 120 [aR b, aR (g 533), aR m0, aR o, aI i, w5, w6] [] h Q := by
  obtain ⟨F, hB, hM, hS, hT, hb⟩ := hL
  have ht0 := se_t0 hS hb
  have hP := hB.pr ht hS hT
  have hTm := hS.1.ti hT
  have hp : pg s = st.1 121 := hS.2.1
  have hX' := hX
  obtain ⟨xx1, xx2, xx3, xx4, xx5, xx6, xx7⟩ := hX'
  have hV := hS.1
  refine g_aload_n rfl rfl ?_
  refine g_aload_n rfl rfl ?_
  refine g_iload rfl rfl ?_
  refine g_iconst (n := 1) rfl (by decide) ?_
  refine g_iadd rfl (by omega) ?_
  refine g_iald rfl hB.2.2.1 (by omega) ?_
  refine g_aload_n rfl rfl ?_
  refine g_iload rfl rfl ?_
  refine g_iconst (n := 2) rfl (by decide) ?_
  refine g_iadd rfl (by omega) ?_
  refine g_iald rfl hB.2.2.1 (by omega) ?_
  refine g_aload_n rfl rfl ?_
  refine g_iload rfl rfl ?_
  refine g_iconst (n := 3) rfl (by decide) ?_
  refine g_iadd rfl (by omega) ?_
  refine g_iald rfl hB.2.2.1 (by omega) ?_
  refine g_i2l rfl ?_
  refine g_bipush (n := 32) rfl (by decide) ?_
  refine g_lshl (v := a_lshl (xs (i + 3).toNat) 32) rfl rfl ?_
  refine g_aload_n rfl rfl ?_
  refine g_iload rfl rfl ?_
  refine g_iconst (n := 4) rfl (by decide) ?_
  refine g_iadd rfl (by omega) ?_
  refine g_iald rfl hB.2.2.1 (by omega) ?_
  refine g_i2l rfl ?_
  refine g_ldc2 (v := 4294967295) rfl rfl ?_
  refine g_land (v := a_land (xs (i + 4).toNat) 4294967295) rfl rfl ?_
  refine g_lor (v := a_lor (a_lshl (xs (i + 3).toNat) 32) (a_land (xs (i + 4).toNat) 4294967295)) rfl rfl ?_
  refine g_aload_n rfl rfl ?_
  refine g_iload rfl rfl ?_
  refine g_iconst (n := 5) rfl (by decide) ?_
  refine g_iadd rfl (by omega) ?_
  refine g_iald rfl hB.2.2.1 (by omega) ?_
  refine g_aload_n rfl rfl ?_
  refine g_iload rfl rfl ?_
  refine g_bipush (n := 6) rfl (by decide) ?_
  refine g_iadd rfl (by omega) ?_
  refine g_iald rfl hB.2.2.1 (by omega) ?_
  refine g_aload_n rfl rfl ?_
  refine g_S (z := yLw_make) (e := 1) (A := [aR o, aI (xs (i + 6).toNat), aI (xs (i + 5).toNat), aL (a_lor (a_lshl (xs (i + 3).toNat) 32) (a_land (xs (i + 4).toNat) 4294967295)), aI (xs (i + 2).toNat), aI (xs (i + 1).toNat), aR (g 533)]) (rest := []) (v := aI ((mkC st t (xs (i + 1).toNat) (xs (i + 2).toNat) (a_lor (a_lshl (xs (i + 3).toNat) 32) (a_land (xs (i + 4).toNat) 4294967295)) (xs (i + 5).toNat) (xs (i + 6).toNat))))  rfl rfl rfl rfl rfl rfl (by omega) (w_make (by omega) hB.1 ht ht0 (Or.inr (Or.inr (Or.inl rfl))) (by omega) hB.2.2.2.2 (xs (i + 1).toNat) (xs (i + 2).toNat) (a_lor (a_lshl (xs (i + 3).toNat) 32) (a_land (xs (i + 4).toNat) 4294967295)) (xs (i + 5).toNat) (xs (i + 6).toNat)) ?_
  intro hh1 hq
  obtain ⟨st1, F1, hR1, hB, hfv⟩ := hB.w hX hq
  refine g_istore (L' := [aR b, aR (g 533), aR m0, aR o, aI i, aI ((mkC st t (xs (i + 1).toNat) (xs (i + 2).toNat) (a_lor (a_lshl (xs (i + 3).toNat) 32) (a_land (xs (i + 4).toNat) 4294967295)) (xs (i + 5).toNat) (xs (i + 6).toNat))), w6]) rfl rfl ?_
  refine g_aload_n rfl rfl ?_
  refine g_aload_n rfl rfl ?_
  refine g_iload rfl rfl ?_
  refine g_iconst (n := 1) rfl (by decide) ?_
  refine g_iadd rfl (by omega) ?_
  refine g_iald rfl hB.2.2.1 (by omega) ?_
  refine g_aload_n rfl rfl ?_
  refine g_iload rfl rfl ?_
  refine g_iconst (n := 2) rfl (by decide) ?_
  refine g_iadd rfl (by omega) ?_
  refine g_iald rfl hB.2.2.1 (by omega) ?_
  refine g_aload_n rfl rfl ?_
  refine g_iload rfl rfl ?_
  refine g_iconst (n := 3) rfl (by decide) ?_
  refine g_iadd rfl (by omega) ?_
  refine g_iald rfl hB.2.2.1 (by omega) ?_
  refine g_i2l rfl ?_
  refine g_bipush (n := 32) rfl (by decide) ?_
  refine g_lshl (v := a_lshl (xs (i + 3).toNat) 32) rfl rfl ?_
  refine g_aload_n rfl rfl ?_
  refine g_iload rfl rfl ?_
  refine g_iconst (n := 4) rfl (by decide) ?_
  refine g_iadd rfl (by omega) ?_
  refine g_iald rfl hB.2.2.1 (by omega) ?_
  refine g_i2l rfl ?_
  refine g_ldc2 (v := 4294967295) rfl rfl ?_
  refine g_land (v := a_land (xs (i + 4).toNat) 4294967295) rfl rfl ?_
  refine g_lor (v := a_lor (a_lshl (xs (i + 3).toNat) 32) (a_land (xs (i + 4).toNat) 4294967295)) rfl rfl ?_
  refine g_aload_n rfl rfl ?_
  refine g_iload rfl rfl ?_
  refine g_iconst (n := 5) rfl (by decide) ?_
  refine g_iadd rfl (by omega) ?_
  refine g_iald rfl hB.2.2.1 (by omega) ?_
  refine g_aload_n rfl rfl ?_
  refine g_iload rfl rfl ?_
  refine g_bipush (n := 6) rfl (by decide) ?_
  refine g_iadd rfl (by omega) ?_
  refine g_iald rfl hB.2.2.1 (by omega) ?_
  refine g_V (z := yMd_make) (e := 1) (A := [aI (xs (i + 6).toNat), aI (xs (i + 5).toNat), aL (a_lor (a_lshl (xs (i + 3).toNat) 32) (a_land (xs (i + 4).toNat) 4294967295)), aI (xs (i + 2).toNat), aI (xs (i + 1).toNat)]) (rest := []) (v := aI (pk ((mkC (mst s) t (xs (i + 1).toNat) (xs (i + 2).toNat) (a_lor (a_lshl (xs (i + 3).toNat) 32) (a_land (xs (i + 4).toNat) 4294967295)) (xs (i + 5).toNat) (xs (i + 6).toNat)) = 0) (((((mst s).2.2.2.1 t) : Nat) : Int)) 0))  rfl rfl rfl rfl rfl rfl (by omega) hB.2.1.ob hB.2.1.b0 (m_make (by omega) ht hb hM hTm hB.2.1 (xs (i + 1).toNat) (xs (i + 2).toNat) (a_lor (a_lshl (xs (i + 3).toNat) 32) (a_land (xs (i + 4).toNat) 4294967295)) (xs (i + 5).toNat) (xs (i + 6).toNat) (r64_lor _ _)) ?_
  intro hh2 hq
  obtain ⟨s1, hW1, hM1, hS1, h11, h26⟩ := hq
  replace hB := hB.m hX hW1
  have hop := op_make hP (xs (i + 1).toNat) (xs (i + 2).toNat) (a_lor (a_lshl (xs (i + 3).toNat) 32) (a_land (xs (i + 4).toNat) 4294967295)) (xs (i + 5).toNat) (xs (i + 6).toNat)
  have hCe := hop.1
  have hVe : mkC st t (xs (i + 1).toNat) (xs (i + 2).toNat) (a_lor (a_lshl (xs (i + 3).toNat) 32) (a_land (xs (i + 4).toNat) 4294967295)) (xs (i + 5).toNat) (xs (i + 6).toNat) = 0 → pk ((mkC (mst s) t (xs (i + 1).toNat) (xs (i + 2).toNat) (a_lor (a_lshl (xs (i + 3).toNat) 32) (a_land (xs (i + 4).toNat) 4294967295)) (xs (i + 5).toNat) (xs (i + 6).toNat)) = 0) (((((mst s).2.2.2.1 t) : Nat) : Int)) 0 = (((st.2.2.2.1 t) : Nat) : Int) := fun z => by
    rw [pk_t (hCe.trans z), hV.1]
  have hop2 := hop.2
  have h26x : s1.2 26 = (mkC st t (xs (i + 1).toNat) (xs (i + 2).toNat) (a_lor (a_lshl (xs (i + 3).toNat) 32) (a_land (xs (i + 4).toNat) 4294967295)) (xs (i + 5).toNat) (xs (i + 6).toNat)) := h26.trans hCe
  refine g_istore (L' := [aR b, aR (g 533), aR m0, aR o, aI i, aI ((mkC st t (xs (i + 1).toNat) (xs (i + 2).toNat) (a_lor (a_lshl (xs (i + 3).toNat) 32) (a_land (xs (i + 4).toNat) 4294967295)) (xs (i + 5).toNat) (xs (i + 6).toNat))), aI (pk ((mkC (mst s) t (xs (i + 1).toNat) (xs (i + 2).toNat) (a_lor (a_lshl (xs (i + 3).toNat) 32) (a_land (xs (i + 4).toNat) 4294967295)) (xs (i + 5).toNat) (xs (i + 6).toNat)) = 0) (((((mst s).2.2.2.1 t) : Nat) : Int)) 0)]) rfl rfl ?_
  refine g_aload_n rfl rfl ?_
  refine g_V (z := yMd_thrown) (e := 1) (A := []) (rest := []) (v := aI ((mkC st t (xs (i + 1).toNat) (xs (i + 2).toNat) (a_lor (a_lshl (xs (i + 3).toNat) 32) (a_land (xs (i + 4).toNat) 4294967295)) (xs (i + 5).toNat) (xs (i + 6).toNat)))) (P := fun h2 => h2 = hh2) rfl rfl rfl rfl rfl rfl (by omega) hB.2.1.ob hB.2.1.b0 ((by rw [← h26x]; exact m_thrown hB.2.1)) ?_
  intro hh9 he9
  rw [he9]
  clear he9 hh9
  refine g_iload rfl rfl ?_
  refine g_icmpeq rfl rfl (fun c3 => ?_) (fun c => absurd c (fun q => q rfl))
  refine g_iload rfl rfl ?_
  refine g_ifne rfl rfl (fun c4 => ?_) (fun c4 => ?_)
  · skip
    have y9 := c4
    refine g_goto rfl rfl ?_
    have hfin := op_end hR1 hS1 hop2
    exact kk _ st1 s1 t _ _ ht ⟨_, hB, hM1, hfin.1, hfin.2, h11⟩
  · skip
    have y9 := c4
    rw [hVe y9]
    refine g_aload_n rfl rfl ?_
    refine g_iconst (n := 0) rfl (by decide) ?_
    refine g_lald rfl hB.2.2.2.2 (by omega) ?_
    rw [show F1 (0 : Int).toNat = (((st.2.2.2.1 t) : Nat) : Int) from (hfv y9 : F1 0 = (((st.2.2.2.1 t) : Nat) : Int))]
    refine g_iload rfl rfl ?_
    refine g_i2l rfl ?_
    refine g_lcmp rfl ?_
    refine g_ifeq rfl rfl (fun c5 => ?_) (fun c => absurd c (fun q => q (lc_self _)))
    refine g_goto rfl rfl ?_
    have hfin := op_end hR1 hS1 hop2
    exact kk _ st1 s1 t _ _ ht ⟨_, hB, hM1, hfin.1, hfin.2, h11⟩
theorem lw_rename (hX : FX b mk N L xs m0 o) (ht : t < 2) (hL : LI b mk N L xs m0 o g t cb sb h st s) (i : Int) (hi0 : 0 ≤ i) (hi7 : i + 7 ≤ (L : Int)) (w5 w6 : AV) (kk : ∀ (h : AH) (st : CS) (s : MS) (t : Nat) (w5 w6 : AV), t < 2 → LI b mk N L xs m0 o g t (cb + 1) (sb + 6) h st s → Go 10 yLw_law 1129 [aR b, aR (g 533), aR m0, aR o, aI i, w5, w6] [] h Q) : Go 10 yLw_law 258 [aR b, aR (g 533), aR m0, aR o, aI i, w5, w6] [] h Q := by
  obtain ⟨F, hB, hM, hS, hT, hb⟩ := hL
  have ht0 := se_t0 hS hb
  have hP := hB.pr ht hS hT
  have hTm := hS.1.ti hT
  have hp : pg s = st.1 121 := hS.2.1
  have hX' := hX
  obtain ⟨xx1, xx2, xx3, xx4, xx5, xx6, xx7⟩ := hX'
  have hV := hS.1
  refine g_aload_n rfl rfl ?_
  refine g_aload_n rfl rfl ?_
  refine g_iload rfl rfl ?_
  refine g_iconst (n := 1) rfl (by decide) ?_
  refine g_iadd rfl (by omega) ?_
  refine g_iald rfl hB.2.2.1 (by omega) ?_
  refine g_aload_n rfl rfl ?_
  refine g_iload rfl rfl ?_
  refine g_iconst (n := 2) rfl (by decide) ?_
  refine g_iadd rfl (by omega) ?_
  refine g_iald rfl hB.2.2.1 (by omega) ?_
  refine g_i2l rfl ?_
  refine g_bipush (n := 32) rfl (by decide) ?_
  refine g_lshl (v := a_lshl (xs (i + 2).toNat) 32) rfl rfl ?_
  refine g_aload_n rfl rfl ?_
  refine g_iload rfl rfl ?_
  refine g_iconst (n := 3) rfl (by decide) ?_
  refine g_iadd rfl (by omega) ?_
  refine g_iald rfl hB.2.2.1 (by omega) ?_
  refine g_i2l rfl ?_
  refine g_ldc2 (v := 4294967295) rfl rfl ?_
  refine g_land (v := a_land (xs (i + 3).toNat) 4294967295) rfl rfl ?_
  refine g_lor (v := a_lor (a_lshl (xs (i + 2).toNat) 32) (a_land (xs (i + 3).toNat) 4294967295)) rfl rfl ?_
  refine g_aload_n rfl rfl ?_
  refine g_iload rfl rfl ?_
  refine g_iconst (n := 4) rfl (by decide) ?_
  refine g_iadd rfl (by omega) ?_
  refine g_iald rfl hB.2.2.1 (by omega) ?_
  refine g_aload_n rfl rfl ?_
  refine g_S (z := yLw_rename) (e := 1) (A := [aR o, aI (xs (i + 4).toNat), aL (a_lor (a_lshl (xs (i + 2).toNat) 32) (a_land (xs (i + 3).toNat) 4294967295)), aI (xs (i + 1).toNat), aR (g 533)]) (rest := []) (v := aI ((rnC st t (xs (i + 1).toNat) (a_lor (a_lshl (xs (i + 2).toNat) 32) (a_land (xs (i + 3).toNat) 4294967295)) (xs (i + 4).toNat))))  rfl rfl rfl rfl rfl rfl (by omega) (w_rename (by omega) hB.1 ht ht0 hT (Or.inr (Or.inr (Or.inl rfl))) (by omega) hB.2.2.2.2 (xs (i + 1).toNat) (a_lor (a_lshl (xs (i + 2).toNat) 32) (a_land (xs (i + 3).toNat) 4294967295)) (xs (i + 4).toNat)) ?_
  intro hh1 hq
  obtain ⟨st1, F1, hR1, hB, hfv⟩ := hB.w hX hq
  refine g_istore (L' := [aR b, aR (g 533), aR m0, aR o, aI i, aI ((rnC st t (xs (i + 1).toNat) (a_lor (a_lshl (xs (i + 2).toNat) 32) (a_land (xs (i + 3).toNat) 4294967295)) (xs (i + 4).toNat))), w6]) rfl rfl ?_
  refine g_aload_n rfl rfl ?_
  refine g_aload_n rfl rfl ?_
  refine g_iload rfl rfl ?_
  refine g_iconst (n := 1) rfl (by decide) ?_
  refine g_iadd rfl (by omega) ?_
  refine g_iald rfl hB.2.2.1 (by omega) ?_
  refine g_aload_n rfl rfl ?_
  refine g_iload rfl rfl ?_
  refine g_iconst (n := 2) rfl (by decide) ?_
  refine g_iadd rfl (by omega) ?_
  refine g_iald rfl hB.2.2.1 (by omega) ?_
  refine g_i2l rfl ?_
  refine g_bipush (n := 32) rfl (by decide) ?_
  refine g_lshl (v := a_lshl (xs (i + 2).toNat) 32) rfl rfl ?_
  refine g_aload_n rfl rfl ?_
  refine g_iload rfl rfl ?_
  refine g_iconst (n := 3) rfl (by decide) ?_
  refine g_iadd rfl (by omega) ?_
  refine g_iald rfl hB.2.2.1 (by omega) ?_
  refine g_i2l rfl ?_
  refine g_ldc2 (v := 4294967295) rfl rfl ?_
  refine g_land (v := a_land (xs (i + 3).toNat) 4294967295) rfl rfl ?_
  refine g_lor (v := a_lor (a_lshl (xs (i + 2).toNat) 32) (a_land (xs (i + 3).toNat) 4294967295)) rfl rfl ?_
  refine g_aload_n rfl rfl ?_
  refine g_iload rfl rfl ?_
  refine g_iconst (n := 4) rfl (by decide) ?_
  refine g_iadd rfl (by omega) ?_
  refine g_iald rfl hB.2.2.1 (by omega) ?_
  refine g_V (z := yMd_rename) (e := 1) (A := [aI (xs (i + 4).toNat), aL (a_lor (a_lshl (xs (i + 2).toNat) 32) (a_land (xs (i + 3).toNat) 4294967295)), aI (xs (i + 1).toNat)]) (rest := []) (v := aI (pk ((rnC (mst s) t (xs (i + 1).toNat) (a_lor (a_lshl (xs (i + 2).toNat) 32) (a_land (xs (i + 3).toNat) 4294967295)) (xs (i + 4).toNat)) = 0) ((rnL (mst s) t (xs (i + 1).toNat) (a_lor (a_lshl (xs (i + 2).toNat) 32) (a_land (xs (i + 3).toNat) 4294967295)) (xs (i + 4).toNat)).length : Int) 0))  rfl rfl rfl rfl rfl rfl (by omega) hB.2.1.ob hB.2.1.b0 (m_rename (by omega) ht hb hM hTm hB.2.1 (xs (i + 1).toNat) (a_lor (a_lshl (xs (i + 2).toNat) 32) (a_land (xs (i + 3).toNat) 4294967295)) (xs (i + 4).toNat) (r64_lor _ _)) ?_
  intro hh2 hq
  obtain ⟨s1, hW1, hM1, hS1, h11, h26⟩ := hq
  replace hB := hB.m hX hW1
  have hop := op_rename hP (xs (i + 1).toNat) (a_lor (a_lshl (xs (i + 2).toNat) 32) (a_land (xs (i + 3).toNat) 4294967295)) (xs (i + 4).toNat)
  have hCe := hop.1
  have hVe : rnC st t (xs (i + 1).toNat) (a_lor (a_lshl (xs (i + 2).toNat) 32) (a_land (xs (i + 3).toNat) 4294967295)) (xs (i + 4).toNat) = 0 → pk ((rnC (mst s) t (xs (i + 1).toNat) (a_lor (a_lshl (xs (i + 2).toNat) 32) (a_land (xs (i + 3).toNat) 4294967295)) (xs (i + 4).toNat)) = 0) ((rnL (mst s) t (xs (i + 1).toNat) (a_lor (a_lshl (xs (i + 2).toNat) 32) (a_land (xs (i + 3).toNat) 4294967295)) (xs (i + 4).toNat)).length : Int) 0 = ((rnL st t (xs (i + 1).toNat) (a_lor (a_lshl (xs (i + 2).toNat) 32) (a_land (xs (i + 3).toNat) 4294967295)) (xs (i + 4).toNat)).length : Int) := fun z => by
    rw [pk_t (hCe.trans z), hop.2.1 z]
  have hop2 := hop.2.2
  have h26x : s1.2 26 = (rnC st t (xs (i + 1).toNat) (a_lor (a_lshl (xs (i + 2).toNat) 32) (a_land (xs (i + 3).toNat) 4294967295)) (xs (i + 4).toNat)) := h26.trans hCe
  refine g_istore (L' := [aR b, aR (g 533), aR m0, aR o, aI i, aI ((rnC st t (xs (i + 1).toNat) (a_lor (a_lshl (xs (i + 2).toNat) 32) (a_land (xs (i + 3).toNat) 4294967295)) (xs (i + 4).toNat))), aI (pk ((rnC (mst s) t (xs (i + 1).toNat) (a_lor (a_lshl (xs (i + 2).toNat) 32) (a_land (xs (i + 3).toNat) 4294967295)) (xs (i + 4).toNat)) = 0) ((rnL (mst s) t (xs (i + 1).toNat) (a_lor (a_lshl (xs (i + 2).toNat) 32) (a_land (xs (i + 3).toNat) 4294967295)) (xs (i + 4).toNat)).length : Int) 0)]) rfl rfl ?_
  refine g_aload_n rfl rfl ?_
  refine g_V (z := yMd_thrown) (e := 1) (A := []) (rest := []) (v := aI ((rnC st t (xs (i + 1).toNat) (a_lor (a_lshl (xs (i + 2).toNat) 32) (a_land (xs (i + 3).toNat) 4294967295)) (xs (i + 4).toNat)))) (P := fun h2 => h2 = hh2) rfl rfl rfl rfl rfl rfl (by omega) hB.2.1.ob hB.2.1.b0 ((by rw [← h26x]; exact m_thrown hB.2.1)) ?_
  intro hh9 he9
  rw [he9]
  clear he9 hh9
  refine g_iload rfl rfl ?_
  refine g_icmpeq rfl rfl (fun c3 => ?_) (fun c => absurd c (fun q => q rfl))
  refine g_iload rfl rfl ?_
  refine g_ifne rfl rfl (fun c4 => ?_) (fun c4 => ?_)
  · skip
    have y9 := c4
    refine g_goto rfl rfl ?_
    have hfin := op_end hR1 hS1 hop2
    exact kk _ st1 s1 t _ _ ht ⟨_, hB, hM1, hfin.1, hfin.2, h11⟩
  · skip
    have y9 := c4
    rw [hVe y9]
    refine g_aload_n rfl rfl ?_
    refine g_iconst (n := 0) rfl (by decide) ?_
    refine g_lald rfl hB.2.2.2.2 (by omega) ?_
    rw [show F1 (0 : Int).toNat = ((rnL st t (xs (i + 1).toNat) (a_lor (a_lshl (xs (i + 2).toNat) 32) (a_land (xs (i + 3).toNat) 4294967295)) (xs (i + 4).toNat)).length : Int) from (hfv y9 : F1 0 = ((rnL st t (xs (i + 1).toNat) (a_lor (a_lshl (xs (i + 2).toNat) 32) (a_land (xs (i + 3).toNat) 4294967295)) (xs (i + 4).toNat)).length : Int))]
    refine g_iload rfl rfl ?_
    refine g_i2l rfl ?_
    refine g_lcmp rfl ?_
    refine g_ifeq rfl rfl (fun c5 => ?_) (fun c => absurd c (fun q => q (lc_self _)))
    refine g_goto rfl rfl ?_
    have hfin := op_end hR1 hS1 hop2
    exact kk _ st1 s1 t _ _ ht ⟨_, hB, hM1, hfin.1, hfin.2, h11⟩
theorem lw_fill (hX : FX b mk N L xs m0 o) (ht : t < 2) (hL : LI b mk N L xs m0 o g t cb sb h st s) (i : Int) (hi0 : 0 ≤ i) (hi7 : i + 7 ≤ (L : Int)) (w5 w6 : AV) (kk : ∀ (h : AH) (st : CS) (s : MS) (t : Nat) (w5 w6 : AV), t < 2 → LI b mk N L xs m0 o g t (cb + 1) (sb + 6) h st s → Go 10 yLw_law 1129 [aR b, aR (g 533), aR m0, aR o, aI i, w5, w6] [] h Q) : Go 10 yLw_law 370 [aR b, aR (g 533), aR m0, aR o, aI i, w5, w6] [] h Q := by
  obtain ⟨F, hB, hM, hS, hT, hb⟩ := hL
  have ht0 := se_t0 hS hb
  have hP := hB.pr ht hS hT
  have hTm := hS.1.ti hT
  have hp : pg s = st.1 121 := hS.2.1
  have hX' := hX
  obtain ⟨xx1, xx2, xx3, xx4, xx5, xx6, xx7⟩ := hX'
  have hV := hS.1
  refine g_aload_n rfl rfl ?_
  refine g_aload_n rfl rfl ?_
  refine g_iload rfl rfl ?_
  refine g_iconst (n := 1) rfl (by decide) ?_
  refine g_iadd rfl (by omega) ?_
  refine g_iald rfl hB.2.2.1 (by omega) ?_
  refine g_aload_n rfl rfl ?_
  refine g_iload rfl rfl ?_
  refine g_iconst (n := 2) rfl (by decide) ?_
  refine g_iadd rfl (by omega) ?_
  refine g_iald rfl hB.2.2.1 (by omega) ?_
  refine g_i2l rfl ?_
  refine g_bipush (n := 32) rfl (by decide) ?_
  refine g_lshl (v := a_lshl (xs (i + 2).toNat) 32) rfl rfl ?_
  refine g_aload_n rfl rfl ?_
  refine g_iload rfl rfl ?_
  refine g_iconst (n := 3) rfl (by decide) ?_
  refine g_iadd rfl (by omega) ?_
  refine g_iald rfl hB.2.2.1 (by omega) ?_
  refine g_i2l rfl ?_
  refine g_ldc2 (v := 4294967295) rfl rfl ?_
  refine g_land (v := a_land (xs (i + 3).toNat) 4294967295) rfl rfl ?_
  refine g_lor (v := a_lor (a_lshl (xs (i + 2).toNat) 32) (a_land (xs (i + 3).toNat) 4294967295)) rfl rfl ?_
  refine g_aload_n rfl rfl ?_
  refine g_iload rfl rfl ?_
  refine g_iconst (n := 4) rfl (by decide) ?_
  refine g_iadd rfl (by omega) ?_
  refine g_iald rfl hB.2.2.1 (by omega) ?_
  refine g_aload_n rfl rfl ?_
  refine g_S (z := yLw_fill) (e := 1) (A := [aR o, aI (xs (i + 4).toNat), aL (a_lor (a_lshl (xs (i + 2).toNat) 32) (a_land (xs (i + 3).toNat) 4294967295)), aI (xs (i + 1).toNat), aR (g 533)]) (rest := []) (v := aI ((fiC st t (xs (i + 1).toNat) (a_lor (a_lshl (xs (i + 2).toNat) 32) (a_land (xs (i + 3).toNat) 4294967295)) (xs (i + 4).toNat))))  rfl rfl rfl rfl rfl rfl (by omega) (w_fill (by omega) hB.1 ht ht0 hT (Or.inr (Or.inr (Or.inl rfl))) (by omega) hB.2.2.2.2 (xs (i + 1).toNat) (a_lor (a_lshl (xs (i + 2).toNat) 32) (a_land (xs (i + 3).toNat) 4294967295)) (xs (i + 4).toNat)) ?_
  intro hh1 hq
  obtain ⟨st1, F1, hR1, hB, hfv⟩ := hB.w hX hq
  refine g_istore (L' := [aR b, aR (g 533), aR m0, aR o, aI i, aI ((fiC st t (xs (i + 1).toNat) (a_lor (a_lshl (xs (i + 2).toNat) 32) (a_land (xs (i + 3).toNat) 4294967295)) (xs (i + 4).toNat))), w6]) rfl rfl ?_
  refine g_aload_n rfl rfl ?_
  refine g_aload_n rfl rfl ?_
  refine g_iload rfl rfl ?_
  refine g_iconst (n := 1) rfl (by decide) ?_
  refine g_iadd rfl (by omega) ?_
  refine g_iald rfl hB.2.2.1 (by omega) ?_
  refine g_aload_n rfl rfl ?_
  refine g_iload rfl rfl ?_
  refine g_iconst (n := 2) rfl (by decide) ?_
  refine g_iadd rfl (by omega) ?_
  refine g_iald rfl hB.2.2.1 (by omega) ?_
  refine g_i2l rfl ?_
  refine g_bipush (n := 32) rfl (by decide) ?_
  refine g_lshl (v := a_lshl (xs (i + 2).toNat) 32) rfl rfl ?_
  refine g_aload_n rfl rfl ?_
  refine g_iload rfl rfl ?_
  refine g_iconst (n := 3) rfl (by decide) ?_
  refine g_iadd rfl (by omega) ?_
  refine g_iald rfl hB.2.2.1 (by omega) ?_
  refine g_i2l rfl ?_
  refine g_ldc2 (v := 4294967295) rfl rfl ?_
  refine g_land (v := a_land (xs (i + 3).toNat) 4294967295) rfl rfl ?_
  refine g_lor (v := a_lor (a_lshl (xs (i + 2).toNat) 32) (a_land (xs (i + 3).toNat) 4294967295)) rfl rfl ?_
  refine g_aload_n rfl rfl ?_
  refine g_iload rfl rfl ?_
  refine g_iconst (n := 4) rfl (by decide) ?_
  refine g_iadd rfl (by omega) ?_
  refine g_iald rfl hB.2.2.1 (by omega) ?_
  refine g_V (z := yMd_fill) (e := 1) (A := [aI (xs (i + 4).toNat), aL (a_lor (a_lshl (xs (i + 2).toNat) 32) (a_land (xs (i + 3).toNat) 4294967295)), aI (xs (i + 1).toNat)]) (rest := []) (v := aI (pk ((fiC (mst s) t (xs (i + 1).toNat) (a_lor (a_lshl (xs (i + 2).toNat) 32) (a_land (xs (i + 3).toNat) 4294967295)) (xs (i + 4).toNat)) = 0) ((fiL (mst s) t (xs (i + 1).toNat) (a_lor (a_lshl (xs (i + 2).toNat) 32) (a_land (xs (i + 3).toNat) 4294967295)) (xs (i + 4).toNat)).length : Int) 0))  rfl rfl rfl rfl rfl rfl (by omega) hB.2.1.ob hB.2.1.b0 (m_fill (by omega) ht hb hM hB.2.1 (xs (i + 1).toNat) (a_lor (a_lshl (xs (i + 2).toNat) 32) (a_land (xs (i + 3).toNat) 4294967295)) (xs (i + 4).toNat) (r64_lor _ _)) ?_
  intro hh2 hq
  obtain ⟨s1, hW1, hM1, hS1, h11, h26⟩ := hq
  replace hB := hB.m hX hW1
  have hop := op_fill hP (xs (i + 1).toNat) (a_lor (a_lshl (xs (i + 2).toNat) 32) (a_land (xs (i + 3).toNat) 4294967295)) (xs (i + 4).toNat)
  have hCe := hop.1
  have hVe : fiC st t (xs (i + 1).toNat) (a_lor (a_lshl (xs (i + 2).toNat) 32) (a_land (xs (i + 3).toNat) 4294967295)) (xs (i + 4).toNat) = 0 → pk ((fiC (mst s) t (xs (i + 1).toNat) (a_lor (a_lshl (xs (i + 2).toNat) 32) (a_land (xs (i + 3).toNat) 4294967295)) (xs (i + 4).toNat)) = 0) ((fiL (mst s) t (xs (i + 1).toNat) (a_lor (a_lshl (xs (i + 2).toNat) 32) (a_land (xs (i + 3).toNat) 4294967295)) (xs (i + 4).toNat)).length : Int) 0 = ((fiL st t (xs (i + 1).toNat) (a_lor (a_lshl (xs (i + 2).toNat) 32) (a_land (xs (i + 3).toNat) 4294967295)) (xs (i + 4).toNat)).length : Int) := fun z => by
    rw [pk_t (hCe.trans z), hop.2.1 z]
  have hop2 := hop.2.2
  have h26x : s1.2 26 = (fiC st t (xs (i + 1).toNat) (a_lor (a_lshl (xs (i + 2).toNat) 32) (a_land (xs (i + 3).toNat) 4294967295)) (xs (i + 4).toNat)) := h26.trans hCe
  refine g_istore (L' := [aR b, aR (g 533), aR m0, aR o, aI i, aI ((fiC st t (xs (i + 1).toNat) (a_lor (a_lshl (xs (i + 2).toNat) 32) (a_land (xs (i + 3).toNat) 4294967295)) (xs (i + 4).toNat))), aI (pk ((fiC (mst s) t (xs (i + 1).toNat) (a_lor (a_lshl (xs (i + 2).toNat) 32) (a_land (xs (i + 3).toNat) 4294967295)) (xs (i + 4).toNat)) = 0) ((fiL (mst s) t (xs (i + 1).toNat) (a_lor (a_lshl (xs (i + 2).toNat) 32) (a_land (xs (i + 3).toNat) 4294967295)) (xs (i + 4).toNat)).length : Int) 0)]) rfl rfl ?_
  refine g_aload_n rfl rfl ?_
  refine g_V (z := yMd_thrown) (e := 1) (A := []) (rest := []) (v := aI ((fiC st t (xs (i + 1).toNat) (a_lor (a_lshl (xs (i + 2).toNat) 32) (a_land (xs (i + 3).toNat) 4294967295)) (xs (i + 4).toNat)))) (P := fun h2 => h2 = hh2) rfl rfl rfl rfl rfl rfl (by omega) hB.2.1.ob hB.2.1.b0 ((by rw [← h26x]; exact m_thrown hB.2.1)) ?_
  intro hh9 he9
  rw [he9]
  clear he9 hh9
  refine g_iload rfl rfl ?_
  refine g_icmpeq rfl rfl (fun c3 => ?_) (fun c => absurd c (fun q => q rfl))
  refine g_iload rfl rfl ?_
  refine g_ifne rfl rfl (fun c4 => ?_) (fun c4 => ?_)
  · skip
    have y9 := c4
    refine g_goto rfl rfl ?_
    have hfin := op_end hR1 hS1 hop2
    exact kk _ st1 s1 t _ _ ht ⟨_, hB, hM1, hfin.1, hfin.2, h11⟩
  · skip
    have y9 := c4
    rw [hVe y9]
    refine g_aload_n rfl rfl ?_
    refine g_iconst (n := 0) rfl (by decide) ?_
    refine g_lald rfl hB.2.2.2.2 (by omega) ?_
    rw [show F1 (0 : Int).toNat = ((fiL st t (xs (i + 1).toNat) (a_lor (a_lshl (xs (i + 2).toNat) 32) (a_land (xs (i + 3).toNat) 4294967295)) (xs (i + 4).toNat)).length : Int) from (hfv y9 : F1 0 = ((fiL st t (xs (i + 1).toNat) (a_lor (a_lshl (xs (i + 2).toNat) 32) (a_land (xs (i + 3).toNat) 4294967295)) (xs (i + 4).toNat)).length : Int))]
    refine g_iload rfl rfl ?_
    refine g_i2l rfl ?_
    refine g_lcmp rfl ?_
    refine g_ifeq rfl rfl (fun c5 => ?_) (fun c => absurd c (fun q => q (lc_self _)))
    refine g_goto rfl rfl ?_
    have hfin := op_end hR1 hS1 hop2
    exact kk _ st1 s1 t _ _ ht ⟨_, hB, hM1, hfin.1, hfin.2, h11⟩
theorem lw_contents (hX : FX b mk N L xs m0 o) (ht : t < 2) (hL : LI b mk N L xs m0 o g t cb sb h st s) (i : Int) (hi0 : 0 ≤ i) (hi7 : i + 7 ≤ (L : Int)) (w5 w6 : AV) (kk : ∀ (h : AH) (st : CS) (s : MS) (t : Nat) (w5 w6 : AV), t < 2 → LI b mk N L xs m0 o g t (cb + 1) (sb + 6) h st s → Go 10 yLw_law 1129 [aR b, aR (g 533), aR m0, aR o, aI i, w5, w6] [] h Q) : Go 10 yLw_law 482 [aR b, aR (g 533), aR m0, aR o, aI i, w5, w6] [] h Q := by
  obtain ⟨F, hB, hM, hS, hT, hb⟩ := hL
  have ht0 := se_t0 hS hb
  have hP := hB.pr ht hS hT
  have hTm := hS.1.ti hT
  have hp : pg s = st.1 121 := hS.2.1
  have hX' := hX
  obtain ⟨xx1, xx2, xx3, xx4, xx5, xx6, xx7⟩ := hX'
  have hV := hS.1
  refine g_aload_n rfl rfl ?_
  refine g_aload_n rfl rfl ?_
  refine g_iload rfl rfl ?_
  refine g_iconst (n := 1) rfl (by decide) ?_
  refine g_iadd rfl (by omega) ?_
  refine g_iald rfl hB.2.2.1 (by omega) ?_
  refine g_aload_n rfl rfl ?_
  refine g_iload rfl rfl ?_
  refine g_iconst (n := 2) rfl (by decide) ?_
  refine g_iadd rfl (by omega) ?_
  refine g_iald rfl hB.2.2.1 (by omega) ?_
  refine g_aload_n rfl rfl ?_
  refine g_iload rfl rfl ?_
  refine g_iconst (n := 3) rfl (by decide) ?_
  refine g_iadd rfl (by omega) ?_
  refine g_iald rfl hB.2.2.1 (by omega) ?_
  refine g_S (z := yLw_contents) (e := 1) (A := [aI (xs (i + 3).toNat), aI (xs (i + 2).toNat), aI (xs (i + 1).toNat), aR (g 533)]) (rest := []) (v := aI ((coC st t (xs (i + 1).toNat) (xs (i + 2).toNat) (xs (i + 3).toNat))))  rfl rfl rfl rfl rfl rfl (by omega) (w_contents (by omega) hB.1 ht ht0 (xs (i + 1).toNat) (xs (i + 2).toNat) (xs (i + 3).toNat)) ?_
  intro hh1 hq
  obtain ⟨st1, hR1, hB⟩ := hB.w0 hq
  refine g_istore (L' := [aR b, aR (g 533), aR m0, aR o, aI i, aI ((coC st t (xs (i + 1).toNat) (xs (i + 2).toNat) (xs (i + 3).toNat))), w6]) rfl rfl ?_
  refine g_aload_n rfl rfl ?_
  refine g_aload_n rfl rfl ?_
  refine g_iload rfl rfl ?_
  refine g_iconst (n := 1) rfl (by decide) ?_
  refine g_iadd rfl (by omega) ?_
  refine g_iald rfl hB.2.2.1 (by omega) ?_
  refine g_aload_n rfl rfl ?_
  refine g_iload rfl rfl ?_
  refine g_iconst (n := 2) rfl (by decide) ?_
  refine g_iadd rfl (by omega) ?_
  refine g_iald rfl hB.2.2.1 (by omega) ?_
  refine g_aload_n rfl rfl ?_
  refine g_iload rfl rfl ?_
  refine g_iconst (n := 3) rfl (by decide) ?_
  refine g_iadd rfl (by omega) ?_
  refine g_iald rfl hB.2.2.1 (by omega) ?_
  refine g_Vn (z := yMd_contents) (e := 1) (A := [aI (xs (i + 3).toNat), aI (xs (i + 2).toNat), aI (xs (i + 1).toNat)]) (rest := [])  rfl rfl rfl rfl rfl rfl (by omega) hB.2.1.ob hB.2.1.b0 (m_contents (by omega) ht hb hM hB.2.1 (xs (i + 1).toNat) (xs (i + 2).toNat) (xs (i + 3).toNat)) ?_
  intro hh2 hq
  obtain ⟨s1, hW1, hM1, hS1, h11, h26⟩ := hq
  replace hB := hB.m hX hW1
  have hop := op_contents hP (xs (i + 1).toNat) (xs (i + 2).toNat) (xs (i + 3).toNat)
  have hCe : pk (coOK (mst s) t (xs (i + 1).toNat) (xs (i + 2).toNat) (xs (i + 3).toNat)) 0 1 = coC st t (xs (i + 1).toNat) (xs (i + 2).toNat) (xs (i + 3).toNat) := hop.1
  have hop2 := hop.2
  have h26x : s1.2 26 = (coC st t (xs (i + 1).toNat) (xs (i + 2).toNat) (xs (i + 3).toNat)) := h26.trans hCe
  refine g_aload_n rfl rfl ?_
  refine g_V (z := yMd_thrown) (e := 1) (A := []) (rest := []) (v := aI ((coC st t (xs (i + 1).toNat) (xs (i + 2).toNat) (xs (i + 3).toNat)))) (P := fun h2 => h2 = hh2) rfl rfl rfl rfl rfl rfl (by omega) hB.2.1.ob hB.2.1.b0 ((by rw [← h26x]; exact m_thrown hB.2.1)) ?_
  intro hh9 he9
  rw [he9]
  clear he9 hh9
  refine g_iload rfl rfl ?_
  refine g_icmpeq rfl rfl (fun c3 => ?_) (fun c => absurd c (fun q => q rfl))
  refine g_goto rfl rfl ?_
  have hfin := op_end hR1 hS1 hop2
  exact kk _ st1 s1 t _ _ ht ⟨_, hB, hM1, hfin.1, hfin.2, h11⟩
theorem lw_set (hX : FX b mk N L xs m0 o) (ht : t < 2) (hL : LI b mk N L xs m0 o g t cb sb h st s) (i : Int) (hi0 : 0 ≤ i) (hi7 : i + 7 ≤ (L : Int)) (w5 w6 : AV) (kk : ∀ (h : AH) (st : CS) (s : MS) (t : Nat) (w5 w6 : AV), t < 2 → LI b mk N L xs m0 o g t (cb + 1) (sb + 6) h st s → Go 10 yLw_law 1129 [aR b, aR (g 533), aR m0, aR o, aI i, w5, w6] [] h Q) : Go 10 yLw_law 542 [aR b, aR (g 533), aR m0, aR o, aI i, w5, w6] [] h Q := by
  obtain ⟨F, hB, hM, hS, hT, hb⟩ := hL
  have ht0 := se_t0 hS hb
  have hP := hB.pr ht hS hT
  have hTm := hS.1.ti hT
  have hp : pg s = st.1 121 := hS.2.1
  have hX' := hX
  obtain ⟨xx1, xx2, xx3, xx4, xx5, xx6, xx7⟩ := hX'
  have hV := hS.1
  refine g_aload_n rfl rfl ?_
  refine g_aload_n rfl rfl ?_
  refine g_iload rfl rfl ?_
  refine g_iconst (n := 1) rfl (by decide) ?_
  refine g_iadd rfl (by omega) ?_
  refine g_iald rfl hB.2.2.1 (by omega) ?_
  refine g_aload_n rfl rfl ?_
  refine g_iload rfl rfl ?_
  refine g_iconst (n := 2) rfl (by decide) ?_
  refine g_iadd rfl (by omega) ?_
  refine g_iald rfl hB.2.2.1 (by omega) ?_
  refine g_aload_n rfl rfl ?_
  refine g_iload rfl rfl ?_
  refine g_iconst (n := 3) rfl (by decide) ?_
  refine g_iadd rfl (by omega) ?_
  refine g_iald rfl hB.2.2.1 (by omega) ?_
  refine g_aload_n rfl rfl ?_
  refine g_iload rfl rfl ?_
  refine g_iconst (n := 4) rfl (by decide) ?_
  refine g_iadd rfl (by omega) ?_
  refine g_iald rfl hB.2.2.1 (by omega) ?_
  refine g_S (z := yLw_set) (e := 1) (A := [aI (xs (i + 4).toNat), aI (xs (i + 3).toNat), aI (xs (i + 2).toNat), aI (xs (i + 1).toNat), aR (g 533)]) (rest := []) (v := aI ((seC st t (xs (i + 1).toNat) (xs (i + 2).toNat) (xs (i + 3).toNat) (xs (i + 4).toNat))))  rfl rfl rfl rfl rfl rfl (by omega) (w_set (by omega) hB.1 ht ht0 (xs (i + 1).toNat) (xs (i + 2).toNat) (xs (i + 3).toNat) (xs (i + 4).toNat)) ?_
  intro hh1 hq
  obtain ⟨st1, hR1, hB⟩ := hB.w0 hq
  refine g_istore (L' := [aR b, aR (g 533), aR m0, aR o, aI i, aI ((seC st t (xs (i + 1).toNat) (xs (i + 2).toNat) (xs (i + 3).toNat) (xs (i + 4).toNat))), w6]) rfl rfl ?_
  refine g_aload_n rfl rfl ?_
  refine g_aload_n rfl rfl ?_
  refine g_iload rfl rfl ?_
  refine g_iconst (n := 1) rfl (by decide) ?_
  refine g_iadd rfl (by omega) ?_
  refine g_iald rfl hB.2.2.1 (by omega) ?_
  refine g_aload_n rfl rfl ?_
  refine g_iload rfl rfl ?_
  refine g_iconst (n := 2) rfl (by decide) ?_
  refine g_iadd rfl (by omega) ?_
  refine g_iald rfl hB.2.2.1 (by omega) ?_
  refine g_aload_n rfl rfl ?_
  refine g_iload rfl rfl ?_
  refine g_iconst (n := 3) rfl (by decide) ?_
  refine g_iadd rfl (by omega) ?_
  refine g_iald rfl hB.2.2.1 (by omega) ?_
  refine g_aload_n rfl rfl ?_
  refine g_iload rfl rfl ?_
  refine g_iconst (n := 4) rfl (by decide) ?_
  refine g_iadd rfl (by omega) ?_
  refine g_iald rfl hB.2.2.1 (by omega) ?_
  refine g_Vn (z := yMd_set) (e := 1) (A := [aI (xs (i + 4).toNat), aI (xs (i + 3).toNat), aI (xs (i + 2).toNat), aI (xs (i + 1).toNat)]) (rest := [])  rfl rfl rfl rfl rfl rfl (by omega) hB.2.1.ob hB.2.1.b0 (m_set (by omega) ht hb hM hB.2.1 (xs (i + 1).toNat) (xs (i + 2).toNat) (xs (i + 3).toNat) (xs (i + 4).toNat)) ?_
  intro hh2 hq
  obtain ⟨s1, hW1, hM1, hS1, h11, h26⟩ := hq
  replace hB := hB.m hX hW1
  have hop := op_set hP (xs (i + 1).toNat) (xs (i + 2).toNat) (xs (i + 3).toNat) (xs (i + 4).toNat) (xx6 _).2
  have hCe : pk (seOK (mst s) t (xs (i + 1).toNat) (xs (i + 2).toNat) (xs (i + 3).toNat) (xs (i + 4).toNat)) 0 1 = seC st t (xs (i + 1).toNat) (xs (i + 2).toNat) (xs (i + 3).toNat) (xs (i + 4).toNat) := hop.1
  have hop2 := hop.2
  have h26x : s1.2 26 = (seC st t (xs (i + 1).toNat) (xs (i + 2).toNat) (xs (i + 3).toNat) (xs (i + 4).toNat)) := h26.trans hCe
  refine g_aload_n rfl rfl ?_
  refine g_V (z := yMd_thrown) (e := 1) (A := []) (rest := []) (v := aI ((seC st t (xs (i + 1).toNat) (xs (i + 2).toNat) (xs (i + 3).toNat) (xs (i + 4).toNat)))) (P := fun h2 => h2 = hh2) rfl rfl rfl rfl rfl rfl (by omega) hB.2.1.ob hB.2.1.b0 ((by rw [← h26x]; exact m_thrown hB.2.1)) ?_
  intro hh9 he9
  rw [he9]
  clear he9 hh9
  refine g_iload rfl rfl ?_
  refine g_icmpeq rfl rfl (fun c3 => ?_) (fun c => absurd c (fun q => q rfl))
  refine g_goto rfl rfl ?_
  have hfin := op_end hR1 hS1 hop2
  exact kk _ st1 s1 t _ _ ht ⟨_, hB, hM1, hfin.1, hfin.2, h11⟩
theorem lw_remove (hX : FX b mk N L xs m0 o) (ht : t < 2) (hL : LI b mk N L xs m0 o g t cb sb h st s) (i : Int) (hi0 : 0 ≤ i) (hi7 : i + 7 ≤ (L : Int)) (w5 w6 : AV) (kk : ∀ (h : AH) (st : CS) (s : MS) (t : Nat) (w5 w6 : AV), t < 2 → LI b mk N L xs m0 o g t (cb + 1) (sb + 6) h st s → Go 10 yLw_law 1129 [aR b, aR (g 533), aR m0, aR o, aI i, w5, w6] [] h Q) : Go 10 yLw_law 614 [aR b, aR (g 533), aR m0, aR o, aI i, w5, w6] [] h Q := by
  obtain ⟨F, hB, hM, hS, hT, hb⟩ := hL
  have ht0 := se_t0 hS hb
  have hP := hB.pr ht hS hT
  have hTm := hS.1.ti hT
  have hp : pg s = st.1 121 := hS.2.1
  have hX' := hX
  obtain ⟨xx1, xx2, xx3, xx4, xx5, xx6, xx7⟩ := hX'
  have hV := hS.1
  refine g_aload_n rfl rfl ?_
  refine g_aload_n rfl rfl ?_
  refine g_iload rfl rfl ?_
  refine g_iconst (n := 1) rfl (by decide) ?_
  refine g_iadd rfl (by omega) ?_
  refine g_iald rfl hB.2.2.1 (by omega) ?_
  refine g_aload_n rfl rfl ?_
  refine g_S (z := yLw_remove) (e := 1) (A := [aR o, aI (xs (i + 1).toNat), aR (g 533)]) (rest := []) (v := aI ((rmC st t (xs (i + 1).toNat))))  rfl rfl rfl rfl rfl rfl (by omega) (w_remove (by omega) hB.1 ht ht0 hT (Or.inr (Or.inr (Or.inl rfl))) (by omega) hB.2.2.2.2 (xs (i + 1).toNat)) ?_
  intro hh1 hq
  obtain ⟨st1, F1, hR1, hB, hfv⟩ := hB.w hX hq
  refine g_istore (L' := [aR b, aR (g 533), aR m0, aR o, aI i, aI ((rmC st t (xs (i + 1).toNat))), w6]) rfl rfl ?_
  refine g_aload_n rfl rfl ?_
  refine g_aload_n rfl rfl ?_
  refine g_iload rfl rfl ?_
  refine g_iconst (n := 1) rfl (by decide) ?_
  refine g_iadd rfl (by omega) ?_
  refine g_iald rfl hB.2.2.1 (by omega) ?_
  refine g_V (z := yMd_remove) (e := 1) (A := [aI (xs (i + 1).toNat)]) (rest := []) (v := aI (pk (hs (mst s) t (xs (i + 1).toNat) ∧ (xs (i + 1).toNat) ≠ 0) (((((mst s).2.2.2.1 t) : Nat) : Int) - kp (mst s) t (xs (i + 1).toNat).toNat (((mst s).2.2.2.1 t))) 0))  rfl rfl rfl rfl rfl rfl (by omega) hB.2.1.ob hB.2.1.b0 (m_remove (by omega) ht hb hM hTm hB.2.1 (xs (i + 1).toNat)) ?_
  intro hh2 hq
  obtain ⟨s1, hW1, hM1, h11, h26, hd1, hd2⟩ := hq
  replace hB := hB.m hX hW1
  have hcd : (hs (mst s) t (xs (i + 1).toNat) ∧ (xs (i + 1).toNat) ≠ 0) = (hs st t (xs (i + 1).toNat) ∧ (xs (i + 1).toNat) ≠ 0) := by rw [propext (hV.qhs (xs (i + 1).toNat))]
  have hCe : pk (hs (mst s) t (xs (i + 1).toNat) ∧ (xs (i + 1).toNat) ≠ 0) 0 1 = rmC st t (xs (i + 1).toNat) := by rw [hcd]; rfl
  have hVe : rmC st t (xs (i + 1).toNat) = 0 → pk (hs (mst s) t (xs (i + 1).toNat) ∧ (xs (i + 1).toNat) ≠ 0) (((((mst s).2.2.2.1 t) : Nat) : Int) - kp (mst s) t (xs (i + 1).toNat).toNat (((mst s).2.2.2.1 t))) 0 = (((st.2.2.2.1 t) : Nat) : Int) - kp st t (xs (i + 1).toNat).toNat ((st.2.2.2.1 t)) := fun z => by
    rw [hcd, pk_t (pk_01.mpr z), hV.1, hV.qkp hT (Nat.le_refl _)]
  have h26x : s1.2 26 = (rmC st t (xs (i + 1).toNat)) := h26.trans hCe
  refine g_istore (L' := [aR b, aR (g 533), aR m0, aR o, aI i, aI ((rmC st t (xs (i + 1).toNat))), aI (pk (hs (mst s) t (xs (i + 1).toNat) ∧ (xs (i + 1).toNat) ≠ 0) (((((mst s).2.2.2.1 t) : Nat) : Int) - kp (mst s) t (xs (i + 1).toNat).toNat (((mst s).2.2.2.1 t))) 0)]) rfl rfl ?_
  refine g_aload_n rfl rfl ?_
  refine g_V (z := yMd_thrown) (e := 1) (A := []) (rest := []) (v := aI ((rmC st t (xs (i + 1).toNat)))) (P := fun h2 => h2 = hh2) rfl rfl rfl rfl rfl rfl (by omega) hB.2.1.ob hB.2.1.b0 ((by rw [← h26x]; exact m_thrown hB.2.1)) ?_
  intro hh9 he9
  rw [he9]
  clear he9 hh9
  refine g_iload rfl rfl ?_
  refine g_icmpeq rfl rfl (fun c3 => ?_) (fun c => absurd c (fun q => q rfl))
  refine g_iload rfl rfl ?_
  refine g_ifne rfl rfl (fun c4 => ?_) (fun c4 => ?_)
  · skip
    have y9 := c4
    refine g_goto rfl rfl ?_
    have hfin : SE st1 (mst s1) t ∧ TI st1 t := by
      by_cases z : rmC st t (xs (i + 1).toNat) = 0
      · have q := pk_01.mpr z
        have q2 := hcd.symm ▸ q
        obtain ⟨r1, r2, r3⟩ := hR1.1 z
        obtain ⟨e1, e2, e3⟩ := hd1 q2
        have hs3 := q.1
        unfold hs at hs3
        refine ⟨⟨hV.drop hT r1 e1, (show pg s1 = st1.1 121 by rw [e2, r2, hp]), ?_, ?_⟩, hT.drop (by have := q.2; omega) r1⟩
        · show s1.2 11 / 30 = st1.2.2.2.2.2 0
          rw [h11, r3, ht0]
          omega
        · show s1.2 14 = st1.2.2.2.2.2 1
          rw [e3, r3]
          exact hS.2.2.2
      · have q : ¬ (hs st t (xs (i + 1).toNat) ∧ (xs (i + 1).toNat) ≠ 0) := fun q => z (pk_01.mp q)
        exact op_end (hR1.2 z) (hd2 (hcd.symm ▸ q)) ⟨hS, hT⟩
    exact kk _ st1 s1 t _ _ ht ⟨_, hB, hM1, hfin.1, hfin.2, h11⟩
  · skip
    have y9 := c4
    rw [hVe y9]
    refine g_aload_n rfl rfl ?_
    refine g_iconst (n := 0) rfl (by decide) ?_
    refine g_lald rfl hB.2.2.2.2 (by omega) ?_
    rw [show F1 (0 : Int).toNat = ((((st.2.2.2.1 t) : Nat) : Int) - kp st t (xs (i + 1).toNat).toNat ((st.2.2.2.1 t))) from (hfv y9 : F1 0 = ((((st.2.2.2.1 t) : Nat) : Int) - kp st t (xs (i + 1).toNat).toNat ((st.2.2.2.1 t))))]
    refine g_iload rfl rfl ?_
    refine g_i2l rfl ?_
    refine g_lcmp rfl ?_
    refine g_ifeq rfl rfl (fun c5 => ?_) (fun c => absurd c (fun q => q (lc_self _)))
    refine g_goto rfl rfl ?_
    have hfin : SE st1 (mst s1) t ∧ TI st1 t := by
      by_cases z : rmC st t (xs (i + 1).toNat) = 0
      · have q := pk_01.mpr z
        have q2 := hcd.symm ▸ q
        obtain ⟨r1, r2, r3⟩ := hR1.1 z
        obtain ⟨e1, e2, e3⟩ := hd1 q2
        have hs3 := q.1
        unfold hs at hs3
        refine ⟨⟨hV.drop hT r1 e1, (show pg s1 = st1.1 121 by rw [e2, r2, hp]), ?_, ?_⟩, hT.drop (by have := q.2; omega) r1⟩
        · show s1.2 11 / 30 = st1.2.2.2.2.2 0
          rw [h11, r3, ht0]
          omega
        · show s1.2 14 = st1.2.2.2.2.2 1
          rw [e3, r3]
          exact hS.2.2.2
      · have q : ¬ (hs st t (xs (i + 1).toNat) ∧ (xs (i + 1).toNat) ≠ 0) := fun q => z (pk_01.mp q)
        exact op_end (hR1.2 z) (hd2 (hcd.symm ▸ q)) ⟨hS, hT⟩
    exact kk _ st1 s1 t _ _ ht ⟨_, hB, hM1, hfin.1, hfin.2, h11⟩
theorem lw_write (hX : FX b mk N L xs m0 o) (ht : t < 2) (hL : LI b mk N L xs m0 o g t cb sb h st s) (i : Int) (hi0 : 0 ≤ i) (hi7 : i + 7 ≤ (L : Int)) (w5 w6 : AV) (kk : ∀ (h : AH) (st : CS) (s : MS) (t : Nat) (w5 w6 : AV), t < 2 → LI b mk N L xs m0 o g t (cb + 1) (sb + 6) h st s → Go 10 yLw_law 1129 [aR b, aR (g 533), aR m0, aR o, aI i, w5, w6] [] h Q) : Go 10 yLw_law 670 [aR b, aR (g 533), aR m0, aR o, aI i, w5, w6] [] h Q := by
  obtain ⟨F, hB, hM, hS, hT, hb⟩ := hL
  have ht0 := se_t0 hS hb
  have hP := hB.pr ht hS hT
  have hTm := hS.1.ti hT
  have hp : pg s = st.1 121 := hS.2.1
  have hX' := hX
  obtain ⟨xx1, xx2, xx3, xx4, xx5, xx6, xx7⟩ := hX'
  have hV := hS.1
  refine g_aload_n rfl rfl ?_
  refine g_aload_n rfl rfl ?_
  refine g_S (z := yLw_write) (e := 1) (A := [aR o, aR (g 533)]) (rest := []) (v := aI ((pk (bfF st t ((st.2.2.2.1 t) - 1) 1 2 ≠ -1) 0 1)))  rfl rfl rfl rfl rfl rfl (by omega) (w_write (by omega) hB.1 ht ht0 hT hB.ok (Or.inr (Or.inr (Or.inl rfl))) (by omega) hB.2.2.2.2 ) ?_
  intro hh1 hq
  obtain ⟨st1, F1, hR1, hB, hfv⟩ := hB.w hX hq
  refine g_istore (L' := [aR b, aR (g 533), aR m0, aR o, aI i, aI ((pk (bfF st t ((st.2.2.2.1 t) - 1) 1 2 ≠ -1) 0 1)), w6]) rfl rfl ?_
  refine g_aload_n rfl rfl ?_
  refine g_V (z := yMd_write) (e := 1) (A := []) (rest := []) (v := aI (pk (bfF (mst s) t (((mst s).2.2.2.1 t) - 1) 1 2 ≠ -1) (bfF (mst s) t (((mst s).2.2.2.1 t) - 1) 1 2) 0))  rfl rfl rfl rfl rfl rfl (by omega) hB.2.1.ob hB.2.1.b0 (m_write (by omega) hM ht hb hTm hB.2.1) ?_
  intro hh2 hq
  obtain ⟨s1, hW1, hM1, hS1, h11, h26⟩ := hq
  replace hB := hB.m hX hW1
  have hbf : bfF (mst s) t (((mst s).2.2.2.1 t) - 1) 1 2 = bfF st t ((st.2.2.2.1 t) - 1) 1 2 := by
    rw [hV.1]
    exact hV.qbfF _ _ _ (by have := hT.c; omega)
  have hCe : pk (bfF (mst s) t (((mst s).2.2.2.1 t) - 1) 1 2 ≠ -1) 0 1 = pk (bfF st t ((st.2.2.2.1 t) - 1) 1 2 ≠ -1) 0 1 := by rw [hbf]
  have hcz : pk (bfF st t ((st.2.2.2.1 t) - 1) 1 2 ≠ -1) 0 1 = 0 → bfF st t ((st.2.2.2.1 t) - 1) 1 2 ≠ -1 := fun z => pk_01.mpr z
  have hVe : pk (bfF st t ((st.2.2.2.1 t) - 1) 1 2 ≠ -1) 0 1 = 0 → pk (bfF (mst s) t (((mst s).2.2.2.1 t) - 1) 1 2 ≠ -1) (bfF (mst s) t (((mst s).2.2.2.1 t) - 1) 1 2) 0 = bfF st t ((st.2.2.2.1 t) - 1) 1 2 := fun z => by
    rw [hbf, pk_t (hcz z)]
  have hw3 : (bfF (mst s) t (((mst s).2.2.2.1 t) - 1) 1 2 ≠ -1) ↔ wrC st t = 0 := by
    rw [hbf]
    unfold wrC
    by_cases z : bfF st t ((st.2.2.2.1 t) - 1) 1 2 ≠ -1
    · rw [pk_t z]; exact ⟨fun _ => rfl, fun _ => z⟩
    · rw [pk_f z]; exact ⟨fun q => absurd q z, fun q => absurd q (by decide)⟩
  have hop2 := op_fin (X := uR st 121 (wrT st t (bfF st t ((st.2.2.2.1 t) - 1) 1 2)).1) (Y := uR (mst s) 121 (wrT (mst s) t (bfF (mst s) t (((mst s).2.2.2.1 t) - 1) 1 2)).1) hP hw3 (fun _ => hP.page (by rw [hbf, hV.qwrT hT]))
  have h26x : s1.2 26 = (pk (bfF st t ((st.2.2.2.1 t) - 1) 1 2 ≠ -1) 0 1) := h26.trans hCe
  refine g_istore (L' := [aR b, aR (g 533), aR m0, aR o, aI i, aI ((pk (bfF st t ((st.2.2.2.1 t) - 1) 1 2 ≠ -1) 0 1)), aI (pk (bfF (mst s) t (((mst s).2.2.2.1 t) - 1) 1 2 ≠ -1) (bfF (mst s) t (((mst s).2.2.2.1 t) - 1) 1 2) 0)]) rfl rfl ?_
  refine g_aload_n rfl rfl ?_
  refine g_V (z := yMd_thrown) (e := 1) (A := []) (rest := []) (v := aI ((pk (bfF st t ((st.2.2.2.1 t) - 1) 1 2 ≠ -1) 0 1))) (P := fun h2 => h2 = hh2) rfl rfl rfl rfl rfl rfl (by omega) hB.2.1.ob hB.2.1.b0 ((by rw [← h26x]; exact m_thrown hB.2.1)) ?_
  intro hh9 he9
  rw [he9]
  clear he9 hh9
  refine g_iload rfl rfl ?_
  refine g_icmpeq rfl rfl (fun c3 => ?_) (fun c => absurd c (fun q => q rfl))
  refine g_iload rfl rfl ?_
  refine g_ifne rfl rfl (fun c4 => ?_) (fun c4 => ?_)
  · skip
    have y9 := c4
    refine g_goto rfl rfl ?_
    have hfin := op_end hR1 hS1 hop2
    exact kk _ st1 s1 t _ _ ht ⟨_, hB, hM1, hfin.1, hfin.2, h11⟩
  · skip
    have y9 := c4
    rw [hVe y9]
    refine g_aload_n rfl rfl ?_
    refine g_iconst (n := 0) rfl (by decide) ?_
    refine g_lald rfl hB.2.2.2.2 (by omega) ?_
    rw [show F1 (0 : Int).toNat = (bfF st t ((st.2.2.2.1 t) - 1) 1 2) from (hfv (pk_t (hcz y9)) : F1 0 = (bfF st t ((st.2.2.2.1 t) - 1) 1 2))]
    refine g_iload rfl rfl ?_
    refine g_i2l rfl ?_
    refine g_lcmp rfl ?_
    refine g_ifeq rfl rfl (fun c5 => ?_) (fun c => absurd c (fun q => q (lc_self _)))
    refine g_goto rfl rfl ?_
    have hfin := op_end hR1 hS1 hop2
    exact kk _ st1 s1 t _ _ ht ⟨_, hB, hM1, hfin.1, hfin.2, h11⟩
theorem lw_alter (hX : FX b mk N L xs m0 o) (ht : t < 2) (hL : LI b mk N L xs m0 o g t cb sb h st s) (i : Int) (hi0 : 0 ≤ i) (hi7 : i + 7 ≤ (L : Int)) (w5 w6 : AV) (kk : ∀ (h : AH) (st : CS) (s : MS) (t : Nat) (w5 w6 : AV), t < 2 → LI b mk N L xs m0 o g t (cb + 1) (sb + 6) h st s → Go 10 yLw_law 1129 [aR b, aR (g 533), aR m0, aR o, aI i, w5, w6] [] h Q) : Go 10 yLw_law 740 [aR b, aR (g 533), aR m0, aR o, aI i, w5, w6] [] h Q := by
  obtain ⟨F, hB, hM, hS, hT, hb⟩ := hL
  have ht0 := se_t0 hS hb
  have hP := hB.pr ht hS hT
  have hTm := hS.1.ti hT
  have hp : pg s = st.1 121 := hS.2.1
  have hX' := hX
  obtain ⟨xx1, xx2, xx3, xx4, xx5, xx6, xx7⟩ := hX'
  have hV := hS.1
  refine g_aload_n rfl rfl ?_
  refine g_aload_n rfl rfl ?_
  refine g_iload rfl rfl ?_
  refine g_iconst (n := 1) rfl (by decide) ?_
  refine g_iadd rfl (by omega) ?_
  refine g_iald rfl hB.2.2.1 (by omega) ?_
  refine g_aload_n rfl rfl ?_
  refine g_iload rfl rfl ?_
  refine g_iconst (n := 2) rfl (by decide) ?_
  refine g_iadd rfl (by omega) ?_
  refine g_iald rfl hB.2.2.1 (by omega) ?_
  refine g_aload_n rfl rfl ?_
  refine g_S (z := yLw_alter) (e := 1) (A := [aR o, aI (xs (i + 2).toNat), aI (xs (i + 1).toNat), aR (g 533)]) (rest := []) (v := aI ((alC st (xs (i + 1).toNat) (xs (i + 2).toNat))))  rfl rfl rfl rfl rfl rfl (by omega) (w_alter (by omega) hB.1 ht ht0 (Or.inr (Or.inr (Or.inl rfl))) (by omega) hB.2.2.2.2 (xs (i + 1).toNat) (xs (i + 2).toNat)) ?_
  intro hh1 hq
  obtain ⟨st1, F1, hR1, hB, hfv⟩ := hB.w hX hq
  refine g_istore (L' := [aR b, aR (g 533), aR m0, aR o, aI i, aI ((alC st (xs (i + 1).toNat) (xs (i + 2).toNat))), w6]) rfl rfl ?_
  refine g_aload_n rfl rfl ?_
  refine g_aload_n rfl rfl ?_
  refine g_iload rfl rfl ?_
  refine g_iconst (n := 1) rfl (by decide) ?_
  refine g_iadd rfl (by omega) ?_
  refine g_iald rfl hB.2.2.1 (by omega) ?_
  refine g_aload_n rfl rfl ?_
  refine g_iload rfl rfl ?_
  refine g_iconst (n := 2) rfl (by decide) ?_
  refine g_iadd rfl (by omega) ?_
  refine g_iald rfl hB.2.2.1 (by omega) ?_
  refine g_V (z := yMd_alter) (e := 1) (A := [aI (xs (i + 2).toNat), aI (xs (i + 1).toNat)]) (rest := []) (v := aI (pk ((0 ≤ (xs (i + 1).toNat) ∧ (xs (i + 1).toNat) < (pg s).length) ∧ 0 ≤ (xs (i + 2).toNat) ∧ (xs (i + 2).toNat) ≤ 255) (rat (pg s) (xs (i + 1).toNat)) 0))  rfl rfl rfl rfl rfl rfl (by omega) hB.2.1.ob hB.2.1.b0 (m_alter (by omega) ht hb hM hB.2.1 (xs (i + 1).toNat) (xs (i + 2).toNat)) ?_
  intro hh2 hq
  obtain ⟨s1, hW1, hM1, hS1, h11, h26⟩ := hq
  replace hB := hB.m hX hW1
  have hCe : pk ((0 ≤ (xs (i + 1).toNat) ∧ (xs (i + 1).toNat) < (pg s).length) ∧ 0 ≤ (xs (i + 2).toNat) ∧ (xs (i + 2).toNat) ≤ 255) 0 1 = alC st (xs (i + 1).toNat) (xs (i + 2).toNat) := by rw [hp]; rfl
  have hVe : alC st (xs (i + 1).toNat) (xs (i + 2).toNat) = 0 → pk ((0 ≤ (xs (i + 1).toNat) ∧ (xs (i + 1).toNat) < (pg s).length) ∧ 0 ≤ (xs (i + 2).toNat) ∧ (xs (i + 2).toNat) ≤ 255) (rat (pg s) (xs (i + 1).toNat)) 0 = rat (st.1 121) (xs (i + 1).toNat) := fun z => by
    rw [hp, pk_t (pk_01.mpr z)]
  have hop2 := op_fin (X := uR st 121 (rput (st.1 121) (xs (i + 1).toNat) (xs (i + 2).toNat))) (Y := uR (mst s) 121 (rput (pg s) (xs (i + 1).toNat) (xs (i + 2).toNat))) (p := (0 ≤ (xs (i + 1).toNat) ∧ (xs (i + 1).toNat) < (pg s).length) ∧ 0 ≤ (xs (i + 2).toNat) ∧ (xs (i + 2).toNat) ≤ 255) (c := alC st (xs (i + 1).toNat) (xs (i + 2).toNat)) hP (by rw [hp]; exact pk_01) (fun _ => hP.page (by rw [hp]))
  have h26x : s1.2 26 = (alC st (xs (i + 1).toNat) (xs (i + 2).toNat)) := h26.trans hCe
  refine g_istore (L' := [aR b, aR (g 533), aR m0, aR o, aI i, aI ((alC st (xs (i + 1).toNat) (xs (i + 2).toNat))), aI (pk ((0 ≤ (xs (i + 1).toNat) ∧ (xs (i + 1).toNat) < (pg s).length) ∧ 0 ≤ (xs (i + 2).toNat) ∧ (xs (i + 2).toNat) ≤ 255) (rat (pg s) (xs (i + 1).toNat)) 0)]) rfl rfl ?_
  refine g_aload_n rfl rfl ?_
  refine g_V (z := yMd_thrown) (e := 1) (A := []) (rest := []) (v := aI ((alC st (xs (i + 1).toNat) (xs (i + 2).toNat)))) (P := fun h2 => h2 = hh2) rfl rfl rfl rfl rfl rfl (by omega) hB.2.1.ob hB.2.1.b0 ((by rw [← h26x]; exact m_thrown hB.2.1)) ?_
  intro hh9 he9
  rw [he9]
  clear he9 hh9
  refine g_iload rfl rfl ?_
  refine g_icmpeq rfl rfl (fun c3 => ?_) (fun c => absurd c (fun q => q rfl))
  refine g_iload rfl rfl ?_
  refine g_ifne rfl rfl (fun c4 => ?_) (fun c4 => ?_)
  · skip
    have y9 := c4
    refine g_goto rfl rfl ?_
    have hfin := op_end hR1 hS1 hop2
    exact kk _ st1 s1 t _ _ ht ⟨_, hB, hM1, hfin.1, hfin.2, h11⟩
  · skip
    have y9 := c4
    rw [hVe y9]
    refine g_aload_n rfl rfl ?_
    refine g_iconst (n := 0) rfl (by decide) ?_
    refine g_lald rfl hB.2.2.2.2 (by omega) ?_
    rw [show F1 (0 : Int).toNat = (rat (st.1 121) (xs (i + 1).toNat)) from (hfv y9 : F1 0 = (rat (st.1 121) (xs (i + 1).toNat)))]
    refine g_iload rfl rfl ?_
    refine g_i2l rfl ?_
    refine g_lcmp rfl ?_
    refine g_ifeq rfl rfl (fun c5 => ?_) (fun c => absurd c (fun q => q (lc_self _)))
    refine g_goto rfl rfl ?_
    have hfin := op_end hR1 hS1 hop2
    exact kk _ st1 s1 t _ _ ht ⟨_, hB, hM1, hfin.1, hfin.2, h11⟩
theorem lw_check (hX : FX b mk N L xs m0 o) (ht : t < 2) (hL : LI b mk N L xs m0 o g t cb sb h st s) (i : Int) (hi0 : 0 ≤ i) (hi7 : i + 7 ≤ (L : Int)) (w5 w6 : AV) (kk : ∀ (h : AH) (st : CS) (s : MS) (t : Nat) (w5 w6 : AV), t < 2 → LI b mk N L xs m0 o g t (cb + 1) (sb + 6) h st s → Go 10 yLw_law 1129 [aR b, aR (g 533), aR m0, aR o, aI i, w5, w6] [] h Q) : Go 10 yLw_law 808 [aR b, aR (g 533), aR m0, aR o, aI i, w5, w6] [] h Q := by
  obtain ⟨F, hB, hM, hS, hT, hb⟩ := hL
  have ht0 := se_t0 hS hb
  have hP := hB.pr ht hS hT
  have hTm := hS.1.ti hT
  have hp : pg s = st.1 121 := hS.2.1
  have hX' := hX
  obtain ⟨xx1, xx2, xx3, xx4, xx5, xx6, xx7⟩ := hX'
  have hV := hS.1
  refine g_aload_n rfl rfl ?_
  refine g_aload_n rfl rfl ?_
  refine g_iload rfl rfl ?_
  refine g_iconst (n := 1) rfl (by decide) ?_
  refine g_iadd rfl (by omega) ?_
  refine g_iald rfl hB.2.2.1 (by omega) ?_
  refine g_aload_n rfl rfl ?_
  refine g_S (z := yLw_check) (e := 1) (A := [aR o, aI (xs (i + 1).toNat), aR (g 533)]) (rest := []) (v := aI ((ckC st (xs (i + 1).toNat))))  rfl rfl rfl rfl rfl rfl (by omega) (w_check (by omega) hB.1 ht ht0 (Or.inr (Or.inr (Or.inl rfl))) (by omega) hB.2.2.2.2 (xs (i + 1).toNat)) ?_
  intro hh1 hq
  obtain ⟨st1, F1, hR1, hB, hfv⟩ := hB.w hX hq
  refine g_istore (L' := [aR b, aR (g 533), aR m0, aR o, aI i, aI ((ckC st (xs (i + 1).toNat))), w6]) rfl rfl ?_
  refine g_aload_n rfl rfl ?_
  refine g_aload_n rfl rfl ?_
  refine g_iload rfl rfl ?_
  refine g_iconst (n := 1) rfl (by decide) ?_
  refine g_iadd rfl (by omega) ?_
  refine g_iald rfl hB.2.2.1 (by omega) ?_
  refine g_V (z := yMd_check) (e := 1) (A := [aI (xs (i + 1).toNat)]) (rest := []) (v := aI (pk (0 ≤ (xs (i + 1).toNat) ∧ (xs (i + 1).toNat) < ((pg s).length : Int) / 512) (sums (pg s) (xs (i + 1).toNat) 512) 0))  rfl rfl rfl rfl rfl rfl (by omega) hB.2.1.ob hB.2.1.b0 (m_check (by omega) ht hb hM hB.2.1 (xs (i + 1).toNat)) ?_
  intro hh2 hq
  obtain ⟨s1, hW1, hM1, hS1, h11, h26⟩ := hq
  replace hB := hB.m hX hW1
  have hCe : pk (0 ≤ (xs (i + 1).toNat) ∧ (xs (i + 1).toNat) < ((pg s).length : Int) / 512) 0 1 = ckC st (xs (i + 1).toNat) := by rw [hp]; rfl
  have hVe : ckC st (xs (i + 1).toNat) = 0 → pk (0 ≤ (xs (i + 1).toNat) ∧ (xs (i + 1).toNat) < ((pg s).length : Int) / 512) (sums (pg s) (xs (i + 1).toNat) 512) 0 = sums (st.1 121) (xs (i + 1).toNat) 512 := fun z => by
    rw [hp, pk_t (pk_01.mpr z)]
  have hop2 := op_fin (X := uR st 121 (pchk (st.1 121) (xs (i + 1).toNat))) (Y := uR (mst s) 121 (pchk (pg s) (xs (i + 1).toNat))) (p := 0 ≤ (xs (i + 1).toNat) ∧ (xs (i + 1).toNat) < ((pg s).length : Int) / 512) (c := ckC st (xs (i + 1).toNat)) hP (by rw [hp]; exact pk_01) (fun _ => hP.page (by rw [hp]))
  have h26x : s1.2 26 = (ckC st (xs (i + 1).toNat)) := h26.trans hCe
  refine g_istore (L' := [aR b, aR (g 533), aR m0, aR o, aI i, aI ((ckC st (xs (i + 1).toNat))), aI (pk (0 ≤ (xs (i + 1).toNat) ∧ (xs (i + 1).toNat) < ((pg s).length : Int) / 512) (sums (pg s) (xs (i + 1).toNat) 512) 0)]) rfl rfl ?_
  refine g_aload_n rfl rfl ?_
  refine g_V (z := yMd_thrown) (e := 1) (A := []) (rest := []) (v := aI ((ckC st (xs (i + 1).toNat)))) (P := fun h2 => h2 = hh2) rfl rfl rfl rfl rfl rfl (by omega) hB.2.1.ob hB.2.1.b0 ((by rw [← h26x]; exact m_thrown hB.2.1)) ?_
  intro hh9 he9
  rw [he9]
  clear he9 hh9
  refine g_iload rfl rfl ?_
  refine g_icmpeq rfl rfl (fun c3 => ?_) (fun c => absurd c (fun q => q rfl))
  refine g_iload rfl rfl ?_
  refine g_ifne rfl rfl (fun c4 => ?_) (fun c4 => ?_)
  · skip
    have y9 := c4
    refine g_goto rfl rfl ?_
    have hfin := op_end hR1 hS1 hop2
    exact kk _ st1 s1 t _ _ ht ⟨_, hB, hM1, hfin.1, hfin.2, h11⟩
  · skip
    have y9 := c4
    rw [hVe y9]
    refine g_aload_n rfl rfl ?_
    refine g_iconst (n := 0) rfl (by decide) ?_
    refine g_lald rfl hB.2.2.2.2 (by omega) ?_
    rw [show F1 (0 : Int).toNat = (sums (st.1 121) (xs (i + 1).toNat) 512) from (hfv y9 : F1 0 = (sums (st.1 121) (xs (i + 1).toNat) 512))]
    refine g_iload rfl rfl ?_
    refine g_i2l rfl ?_
    refine g_lcmp rfl ?_
    refine g_ifeq rfl rfl (fun c5 => ?_) (fun c => absurd c (fun q => q (lc_self _)))
    refine g_goto rfl rfl ?_
    have hfin := op_end hR1 hS1 hop2
    exact kk _ st1 s1 t _ _ ht ⟨_, hB, hM1, hfin.1, hfin.2, h11⟩
theorem lw_size (hX : FX b mk N L xs m0 o) (ht : t < 2) (hL : LI b mk N L xs m0 o g t cb sb h st s) (i : Int) (hi0 : 0 ≤ i) (hi7 : i + 7 ≤ (L : Int)) (w5 w6 : AV) (kk : ∀ (h : AH) (st : CS) (s : MS) (t : Nat) (w5 w6 : AV), t < 2 → LI b mk N L xs m0 o g t (cb + 1) (sb + 6) h st s → Go 10 yLw_law 1129 [aR b, aR (g 533), aR m0, aR o, aI i, w5, w6] [] h Q) : Go 10 yLw_law 864 [aR b, aR (g 533), aR m0, aR o, aI i, w5, w6] [] h Q := by
  obtain ⟨F, hB, hM, hS, hT, hb⟩ := hL
  have ht0 := se_t0 hS hb
  have hP := hB.pr ht hS hT
  have hTm := hS.1.ti hT
  have hp : pg s = st.1 121 := hS.2.1
  have hX' := hX
  obtain ⟨xx1, xx2, xx3, xx4, xx5, xx6, xx7⟩ := hX'
  have hV := hS.1
  refine g_aload_n rfl rfl ?_
  refine g_aload_n rfl rfl ?_
  refine g_iload rfl rfl ?_
  refine g_iconst (n := 1) rfl (by decide) ?_
  refine g_iadd rfl (by omega) ?_
  refine g_iald rfl hB.2.2.1 (by omega) ?_
  refine g_S (z := yLw_size) (e := 1) (A := [aI (xs (i + 1).toNat), aR (g 533)]) (rest := []) (v := aI ((szC (xs (i + 1).toNat))))  rfl rfl rfl rfl rfl rfl (by omega) (w_size (by omega) hB.1 ht ht0 (xs (i + 1).toNat)) ?_
  intro hh1 hq
  obtain ⟨st1, hR1, hB⟩ := hB.w0 hq
  refine g_istore (L' := [aR b, aR (g 533), aR m0, aR o, aI i, aI ((szC (xs (i + 1).toNat))), w6]) rfl rfl ?_
  refine g_aload_n rfl rfl ?_
  refine g_aload_n rfl rfl ?_
  refine g_iload rfl rfl ?_
  refine g_iconst (n := 1) rfl (by decide) ?_
  refine g_iadd rfl (by omega) ?_
  refine g_iald rfl hB.2.2.1 (by omega) ?_
  refine g_Vn (z := yMd_size) (e := 1) (A := [aI (xs (i + 1).toNat)]) (rest := [])  rfl rfl rfl rfl rfl rfl (by omega) hB.2.1.ob hB.2.1.b0 (m_size (by omega) ht hb hM hB.2.1 (xs (i + 1).toNat)) ?_
  intro hh2 hq
  obtain ⟨s1, hW1, hM1, hS1, h11, h26⟩ := hq
  replace hB := hB.m hX hW1
  have hCe : pk (0 ≤ (xs (i + 1).toNat) ∧ (xs (i + 1).toNat) ≤ 10240) 0 1 = szC (xs (i + 1).toNat) := rfl
  have hop2 := op_fin (X := uR st 121 (rsz (st.1 121) (xs (i + 1).toNat))) (Y := uR (mst s) 121 (rsz (pg s) (xs (i + 1).toNat))) (p := 0 ≤ (xs (i + 1).toNat) ∧ (xs (i + 1).toNat) ≤ 10240) (c := szC (xs (i + 1).toNat)) hP pk_01 (fun _ => hP.page (by rw [hp]))
  have h26x : s1.2 26 = (szC (xs (i + 1).toNat)) := h26.trans hCe
  refine g_aload_n rfl rfl ?_
  refine g_V (z := yMd_thrown) (e := 1) (A := []) (rest := []) (v := aI ((szC (xs (i + 1).toNat)))) (P := fun h2 => h2 = hh2) rfl rfl rfl rfl rfl rfl (by omega) hB.2.1.ob hB.2.1.b0 ((by rw [← h26x]; exact m_thrown hB.2.1)) ?_
  intro hh9 he9
  rw [he9]
  clear he9 hh9
  refine g_iload rfl rfl ?_
  refine g_icmpeq rfl rfl (fun c3 => ?_) (fun c => absurd c (fun q => q rfl))
  refine g_goto rfl rfl ?_
  have hfin := op_end hR1 hS1 hop2
  exact kk _ st1 s1 t _ _ ht ⟨_, hB, hM1, hfin.1, hfin.2, h11⟩
theorem lw_node (hX : FX b mk N L xs m0 o) (ht : t < 2) (hL : LI b mk N L xs m0 o g t cb sb h st s) (i : Int) (hi0 : 0 ≤ i) (hi7 : i + 7 ≤ (L : Int)) (w5 w6 : AV) (kk : ∀ (h : AH) (st : CS) (s : MS) (t : Nat) (w5 w6 : AV), t < 2 → LI b mk N L xs m0 o g t (cb + 1) (sb + 6) h st s → Go 10 yLw_law 1129 [aR b, aR (g 533), aR m0, aR o, aI i, w5, w6] [] h Q) : Go 10 yLw_law 925 [aR b, aR (g 533), aR m0, aR o, aI i, w5, w6] [] h Q := by
  obtain ⟨F, hB, hM, hS, hT, hb⟩ := hL
  have ht0 := se_t0 hS hb
  have hP := hB.pr ht hS hT
  have hTm := hS.1.ti hT
  have hp : pg s = st.1 121 := hS.2.1
  have hX' := hX
  obtain ⟨xx1, xx2, xx3, xx4, xx5, xx6, xx7⟩ := hX'
  have hV := hS.1
  refine g_aload_n rfl rfl ?_
  refine g_aload_n rfl rfl ?_
  refine g_iload rfl rfl ?_
  refine g_iconst (n := 1) rfl (by decide) ?_
  refine g_iadd rfl (by omega) ?_
  refine g_iald rfl hB.2.2.1 (by omega) ?_
  refine g_aload_n rfl rfl ?_
  refine g_iload rfl rfl ?_
  refine g_iconst (n := 2) rfl (by decide) ?_
  refine g_iadd rfl (by omega) ?_
  refine g_iald rfl hB.2.2.1 (by omega) ?_
  refine g_aload_n rfl rfl ?_
  refine g_S (z := yLw_node) (e := 1) (A := [aR o, aI (xs (i + 2).toNat), aI (xs (i + 1).toNat), aR (g 533)]) (rest := []) (v := aI ((ndC st t (xs (i + 1).toNat) (xs (i + 2).toNat))))  rfl rfl rfl rfl rfl rfl (by omega) (w_node (by omega) hB.1 ht ht0 (Or.inr (Or.inr (Or.inl rfl))) (by omega) hB.2.2.2.2 (xs (i + 1).toNat) (xs (i + 2).toNat)) ?_
  intro hh1 hq
  obtain ⟨st1, F1, hR1, hB, hfv⟩ := hB.w hX hq
  refine g_istore (L' := [aR b, aR (g 533), aR m0, aR o, aI i, aI ((ndC st t (xs (i + 1).toNat) (xs (i + 2).toNat))), w6]) rfl rfl ?_
  refine g_aload_n rfl rfl ?_
  refine g_aload_n rfl rfl ?_
  refine g_iload rfl rfl ?_
  refine g_iconst (n := 1) rfl (by decide) ?_
  refine g_iadd rfl (by omega) ?_
  refine g_iald rfl hB.2.2.1 (by omega) ?_
  refine g_aload_n rfl rfl ?_
  refine g_iload rfl rfl ?_
  refine g_iconst (n := 2) rfl (by decide) ?_
  refine g_iadd rfl (by omega) ?_
  refine g_iald rfl hB.2.2.1 (by omega) ?_
  refine g_V (z := yMd_node) (e := 1) (A := [aI (xs (i + 2).toNat), aI (xs (i + 1).toNat)]) (rest := []) (v := aI (pk (hs (mst s) t (xs (i + 1).toNat) ∧ 0 ≤ (xs (i + 2).toNat) ∧ (xs (i + 2).toNat) ≤ 7) (ndV (mst s) t (xs (i + 1).toNat).toNat (xs (i + 2).toNat)) 0))  rfl rfl rfl rfl rfl rfl (by omega) hB.2.1.ob hB.2.1.b0 (m_node (by omega) ht hb hM hTm hB.2.1 (xs (i + 1).toNat) (xs (i + 2).toNat)) ?_
  intro hh2 hq
  obtain ⟨s1, hW1, hM1, hS1, h11, h26⟩ := hq
  replace hB := hB.m hX hW1
  have hcd : (hs (mst s) t (xs (i + 1).toNat) ∧ 0 ≤ (xs (i + 2).toNat) ∧ (xs (i + 2).toNat) ≤ 7) = (hs st t (xs (i + 1).toNat) ∧ 0 ≤ (xs (i + 2).toNat) ∧ (xs (i + 2).toNat) ≤ 7) := by rw [propext (hV.qhs (xs (i + 1).toNat))]
  have hCe : pk (hs (mst s) t (xs (i + 1).toNat) ∧ 0 ≤ (xs (i + 2).toNat) ∧ (xs (i + 2).toNat) ≤ 7) 0 1 = ndC st t (xs (i + 1).toNat) (xs (i + 2).toNat) := by rw [hcd]; rfl
  have hVe : ndC st t (xs (i + 1).toNat) (xs (i + 2).toNat) = 0 → pk (hs (mst s) t (xs (i + 1).toNat) ∧ 0 ≤ (xs (i + 2).toNat) ∧ (xs (i + 2).toNat) ≤ 7) (ndV (mst s) t (xs (i + 1).toNat).toNat (xs (i + 2).toNat)) 0 = ndV st t (xs (i + 1).toNat).toNat (xs (i + 2).toNat) := fun z => by
    have q := pk_01.mpr z
    rw [hcd, pk_t q]
    have hi : (xs (i + 1).toNat).toNat < (st.2.2.2.1 t) := by have q1 := q.1; unfold hs at q1; omega
    have k := (hV.2 _ hi).1
    unfold ndV
    rw [k 0 (by omega), k 1 (by omega), k 2 (by omega), k 3 (by omega), k 4 (by omega), k 5 (by omega), (hV.2 _ hi).2.1, (hV.2 _ hi).2.2]
  have hop2 : SE (if ndC st t (xs (i + 1).toNat) (xs (i + 2).toNat) = 0 then st else st) (mst s) t ∧ TI (if ndC st t (xs (i + 1).toNat) (xs (i + 2).toNat) = 0 then st else st) t := by rw [ite_self]; exact ⟨hS, hT⟩
  have h26x : s1.2 26 = (ndC st t (xs (i + 1).toNat) (xs (i + 2).toNat)) := h26.trans hCe
  refine g_istore (L' := [aR b, aR (g 533), aR m0, aR o, aI i, aI ((ndC st t (xs (i + 1).toNat) (xs (i + 2).toNat))), aI (pk (hs (mst s) t (xs (i + 1).toNat) ∧ 0 ≤ (xs (i + 2).toNat) ∧ (xs (i + 2).toNat) ≤ 7) (ndV (mst s) t (xs (i + 1).toNat).toNat (xs (i + 2).toNat)) 0)]) rfl rfl ?_
  refine g_aload_n rfl rfl ?_
  refine g_V (z := yMd_thrown) (e := 1) (A := []) (rest := []) (v := aI ((ndC st t (xs (i + 1).toNat) (xs (i + 2).toNat)))) (P := fun h2 => h2 = hh2) rfl rfl rfl rfl rfl rfl (by omega) hB.2.1.ob hB.2.1.b0 ((by rw [← h26x]; exact m_thrown hB.2.1)) ?_
  intro hh9 he9
  rw [he9]
  clear he9 hh9
  refine g_iload rfl rfl ?_
  refine g_icmpeq rfl rfl (fun c3 => ?_) (fun c => absurd c (fun q => q rfl))
  refine g_iload rfl rfl ?_
  refine g_ifne rfl rfl (fun c4 => ?_) (fun c4 => ?_)
  · skip
    have y9 := c4
    refine g_goto rfl rfl ?_
    have hfin := op_end hR1 hS1 hop2
    exact kk _ st1 s1 t _ _ ht ⟨_, hB, hM1, hfin.1, hfin.2, h11⟩
  · skip
    have y9 := c4
    rw [hVe y9]
    refine g_aload_n rfl rfl ?_
    refine g_iconst (n := 0) rfl (by decide) ?_
    refine g_lald rfl hB.2.2.2.2 (by omega) ?_
    rw [show F1 (0 : Int).toNat = (ndV st t (xs (i + 1).toNat).toNat (xs (i + 2).toNat)) from (hfv y9 : F1 0 = (ndV st t (xs (i + 1).toNat).toNat (xs (i + 2).toNat)))]
    refine g_iload rfl rfl ?_
    refine g_i2l rfl ?_
    refine g_lcmp rfl ?_
    refine g_ifeq rfl rfl (fun c5 => ?_) (fun c => absurd c (fun q => q (lc_self _)))
    refine g_goto rfl rfl ?_
    have hfin := op_end hR1 hS1 hop2
    exact kk _ st1 s1 t _ _ ht ⟨_, hB, hM1, hfin.1, hfin.2, h11⟩
theorem lw_part (hX : FX b mk N L xs m0 o) (ht : t < 2) (hL : LI b mk N L xs m0 o g t cb sb h st s) (i : Int) (hi0 : 0 ≤ i) (hi7 : i + 7 ≤ (L : Int)) (w5 w6 : AV) (kk : ∀ (h : AH) (st : CS) (s : MS) (t : Nat) (w5 w6 : AV), t < 2 → LI b mk N L xs m0 o g t (cb + 1) (sb + 6) h st s → Go 10 yLw_law 1129 [aR b, aR (g 533), aR m0, aR o, aI i, w5, w6] [] h Q) : Go 10 yLw_law 993 [aR b, aR (g 533), aR m0, aR o, aI i, w5, w6] [] h Q := by
  obtain ⟨F, hB, hM, hS, hT, hb⟩ := hL
  have ht0 := se_t0 hS hb
  have hP := hB.pr ht hS hT
  have hTm := hS.1.ti hT
  have hp : pg s = st.1 121 := hS.2.1
  have hX' := hX
  obtain ⟨xx1, xx2, xx3, xx4, xx5, xx6, xx7⟩ := hX'
  have hV := hS.1
  refine g_aload_n rfl rfl ?_
  refine g_aload_n rfl rfl ?_
  refine g_iload rfl rfl ?_
  refine g_iconst (n := 1) rfl (by decide) ?_
  refine g_iadd rfl (by omega) ?_
  refine g_iald rfl hB.2.2.1 (by omega) ?_
  refine g_aload_n rfl rfl ?_
  refine g_iload rfl rfl ?_
  refine g_iconst (n := 2) rfl (by decide) ?_
  refine g_iadd rfl (by omega) ?_
  refine g_iald rfl hB.2.2.1 (by omega) ?_
  refine g_aload_n rfl rfl ?_
  refine g_iload rfl rfl ?_
  refine g_iconst (n := 3) rfl (by decide) ?_
  refine g_iadd rfl (by omega) ?_
  refine g_iald rfl hB.2.2.1 (by omega) ?_
  refine g_aload_n rfl rfl ?_
  refine g_S (z := yLw_part) (e := 1) (A := [aR o, aI (xs (i + 3).toNat), aI (xs (i + 2).toNat), aI (xs (i + 1).toNat), aR (g 533)]) (rest := []) (v := aI ((paC st t (xs (i + 1).toNat) (xs (i + 2).toNat))))  rfl rfl rfl rfl rfl rfl (by omega) (w_part (by omega) hB.1 ht ht0 (Or.inr (Or.inr (Or.inl rfl))) (by omega) hB.2.2.2.2 (xs (i + 1).toNat) (xs (i + 2).toNat) (xs (i + 3).toNat)) ?_
  intro hh1 hq
  obtain ⟨st1, F1, hR1, hB, hfv⟩ := hB.w hX hq
  refine g_istore (L' := [aR b, aR (g 533), aR m0, aR o, aI i, aI ((paC st t (xs (i + 1).toNat) (xs (i + 2).toNat))), w6]) rfl rfl ?_
  refine g_aload_n rfl rfl ?_
  refine g_aload_n rfl rfl ?_
  refine g_iload rfl rfl ?_
  refine g_iconst (n := 1) rfl (by decide) ?_
  refine g_iadd rfl (by omega) ?_
  refine g_iald rfl hB.2.2.1 (by omega) ?_
  refine g_aload_n rfl rfl ?_
  refine g_iload rfl rfl ?_
  refine g_iconst (n := 2) rfl (by decide) ?_
  refine g_iadd rfl (by omega) ?_
  refine g_iald rfl hB.2.2.1 (by omega) ?_
  refine g_aload_n rfl rfl ?_
  refine g_iload rfl rfl ?_
  refine g_iconst (n := 3) rfl (by decide) ?_
  refine g_iadd rfl (by omega) ?_
  refine g_iald rfl hB.2.2.1 (by omega) ?_
  refine g_V (z := yMd_part) (e := 1) (A := [aI (xs (i + 3).toNat), aI (xs (i + 2).toNat), aI (xs (i + 1).toNat)]) (rest := []) (v := aI (pk (hs (mst s) t (xs (i + 1).toNat) ∧ ((xs (i + 2).toNat) = 0 ∨ (xs (i + 2).toNat) = 1)) (paV (mst s) t (xs (i + 1).toNat).toNat (xs (i + 2).toNat) (xs (i + 3).toNat)) 0))  rfl rfl rfl rfl rfl rfl (by omega) hB.2.1.ob hB.2.1.b0 (m_part (by omega) ht hb hM hTm hB.2.1 (xs (i + 1).toNat) (xs (i + 2).toNat) (xs (i + 3).toNat)) ?_
  intro hh2 hq
  obtain ⟨s1, hW1, hM1, hS1, h11, h26⟩ := hq
  replace hB := hB.m hX hW1
  have hcd : (hs (mst s) t (xs (i + 1).toNat) ∧ ((xs (i + 2).toNat) = 0 ∨ (xs (i + 2).toNat) = 1)) = (hs st t (xs (i + 1).toNat) ∧ ((xs (i + 2).toNat) = 0 ∨ (xs (i + 2).toNat) = 1)) := by rw [propext (hV.qhs (xs (i + 1).toNat))]
  have hCe : pk (hs (mst s) t (xs (i + 1).toNat) ∧ ((xs (i + 2).toNat) = 0 ∨ (xs (i + 2).toNat) = 1)) 0 1 = paC st t (xs (i + 1).toNat) (xs (i + 2).toNat) := by rw [hcd]; rfl
  have hVe : paC st t (xs (i + 1).toNat) (xs (i + 2).toNat) = 0 → pk (hs (mst s) t (xs (i + 1).toNat) ∧ ((xs (i + 2).toNat) = 0 ∨ (xs (i + 2).toNat) = 1)) (paV (mst s) t (xs (i + 1).toNat).toNat (xs (i + 2).toNat) (xs (i + 3).toNat)) 0 = paV st t (xs (i + 1).toNat).toNat (xs (i + 2).toNat) (xs (i + 3).toNat) := fun z => by
    have q := pk_01.mpr z
    rw [hcd, pk_t q]
    have hi : (xs (i + 1).toNat).toNat < (st.2.2.2.1 t) := by have q1 := q.1; unfold hs at q1; omega
    unfold paV
    rw [(hV.2 _ hi).2.1, (hV.2 _ hi).2.2]
  have hop2 : SE (if paC st t (xs (i + 1).toNat) (xs (i + 2).toNat) = 0 then st else st) (mst s) t ∧ TI (if paC st t (xs (i + 1).toNat) (xs (i + 2).toNat) = 0 then st else st) t := by rw [ite_self]; exact ⟨hS, hT⟩
  have h26x : s1.2 26 = (paC st t (xs (i + 1).toNat) (xs (i + 2).toNat)) := h26.trans hCe
  refine g_istore (L' := [aR b, aR (g 533), aR m0, aR o, aI i, aI ((paC st t (xs (i + 1).toNat) (xs (i + 2).toNat))), aI (pk (hs (mst s) t (xs (i + 1).toNat) ∧ ((xs (i + 2).toNat) = 0 ∨ (xs (i + 2).toNat) = 1)) (paV (mst s) t (xs (i + 1).toNat).toNat (xs (i + 2).toNat) (xs (i + 3).toNat)) 0)]) rfl rfl ?_
  refine g_aload_n rfl rfl ?_
  refine g_V (z := yMd_thrown) (e := 1) (A := []) (rest := []) (v := aI ((paC st t (xs (i + 1).toNat) (xs (i + 2).toNat)))) (P := fun h2 => h2 = hh2) rfl rfl rfl rfl rfl rfl (by omega) hB.2.1.ob hB.2.1.b0 ((by rw [← h26x]; exact m_thrown hB.2.1)) ?_
  intro hh9 he9
  rw [he9]
  clear he9 hh9
  refine g_iload rfl rfl ?_
  refine g_icmpeq rfl rfl (fun c3 => ?_) (fun c => absurd c (fun q => q rfl))
  refine g_iload rfl rfl ?_
  refine g_ifne rfl rfl (fun c4 => ?_) (fun c4 => ?_)
  · skip
    have y9 := c4
    refine g_goto rfl rfl ?_
    have hfin := op_end hR1 hS1 hop2
    exact kk _ st1 s1 t _ _ ht ⟨_, hB, hM1, hfin.1, hfin.2, h11⟩
  · skip
    have y9 := c4
    rw [hVe y9]
    refine g_aload_n rfl rfl ?_
    refine g_iconst (n := 0) rfl (by decide) ?_
    refine g_lald rfl hB.2.2.2.2 (by omega) ?_
    rw [show F1 (0 : Int).toNat = (paV st t (xs (i + 1).toNat).toNat (xs (i + 2).toNat) (xs (i + 3).toNat)) from (hfv y9 : F1 0 = (paV st t (xs (i + 1).toNat).toNat (xs (i + 2).toNat) (xs (i + 3).toNat)))]
    refine g_iload rfl rfl ?_
    refine g_i2l rfl ?_
    refine g_lcmp rfl ?_
    refine g_ifeq rfl rfl (fun c5 => ?_) (fun c => absurd c (fun q => q (lc_self _)))
    refine g_goto rfl rfl ?_
    have hfin := op_end hR1 hS1 hop2
    exact kk _ st1 s1 t _ _ ht ⟨_, hB, hM1, hfin.1, hfin.2, h11⟩
theorem lw_total (hX : FX b mk N L xs m0 o) (ht : t < 2) (hL : LI b mk N L xs m0 o g t cb sb h st s) (i : Int) (hi0 : 0 ≤ i) (hi7 : i + 7 ≤ (L : Int)) (w5 w6 : AV) (kk : ∀ (h : AH) (st : CS) (s : MS) (t : Nat) (w5 w6 : AV), t < 2 → LI b mk N L xs m0 o g t (cb + 1) (sb + 6) h st s → Go 10 yLw_law 1129 [aR b, aR (g 533), aR m0, aR o, aI i, w5, w6] [] h Q) : Go 10 yLw_law 1073 [aR b, aR (g 533), aR m0, aR o, aI i, w5, w6] [] h Q := by
  obtain ⟨F, hB, hM, hS, hT, hb⟩ := hL
  have ht0 := se_t0 hS hb
  have hP := hB.pr ht hS hT
  have hTm := hS.1.ti hT
  have hp : pg s = st.1 121 := hS.2.1
  have hX' := hX
  obtain ⟨xx1, xx2, xx3, xx4, xx5, xx6, xx7⟩ := hX'
  have hV := hS.1
  refine g_aload_n rfl rfl ?_
  refine g_aload_n rfl rfl ?_
  refine g_iload rfl rfl ?_
  refine g_iconst (n := 1) rfl (by decide) ?_
  refine g_iadd rfl (by omega) ?_
  refine g_iald rfl hB.2.2.1 (by omega) ?_
  refine g_aload_n rfl rfl ?_
  refine g_S (z := yLw_total) (e := 1) (A := [aR o, aI (xs (i + 1).toNat), aR (g 533)]) (rest := []) (v := aI ((toC (xs (i + 1).toNat))))  rfl rfl rfl rfl rfl rfl (by omega) (w_total (by omega) hB.1 ht ht0 (Or.inr (Or.inr (Or.inl rfl))) (by omega) hB.2.2.2.2 (xs (i + 1).toNat)) ?_
  intro hh1 hq
  obtain ⟨st1, F1, hR1, hB, hfv⟩ := hB.w hX hq
  refine g_istore (L' := [aR b, aR (g 533), aR m0, aR o, aI i, aI ((toC (xs (i + 1).toNat))), w6]) rfl rfl ?_
  refine g_aload_n rfl rfl ?_
  refine g_aload_n rfl rfl ?_
  refine g_iload rfl rfl ?_
  refine g_iconst (n := 1) rfl (by decide) ?_
  refine g_iadd rfl (by omega) ?_
  refine g_iald rfl hB.2.2.1 (by omega) ?_
  refine g_V (z := yMd_total) (e := 1) (A := [aI (xs (i + 1).toNat)]) (rest := []) (v := aI (pk (0 ≤ (xs (i + 1).toNat) ∧ (xs (i + 1).toNat) ≤ 2) (toV (mst s) t (xs (i + 1).toNat)) 0))  rfl rfl rfl rfl rfl rfl (by omega) hB.2.1.ob hB.2.1.b0 (m_total (by omega) ht hb hM hTm hB.2.1 (xs (i + 1).toNat)) ?_
  intro hh2 hq
  obtain ⟨s1, hW1, hM1, hS1, h11, h26⟩ := hq
  replace hB := hB.m hX hW1
  have hCe : pk (0 ≤ (xs (i + 1).toNat) ∧ (xs (i + 1).toNat) ≤ 2) 0 1 = toC (xs (i + 1).toNat) := rfl
  have hVe : toC (xs (i + 1).toNat) = 0 → pk (0 ≤ (xs (i + 1).toNat) ∧ (xs (i + 1).toNat) ≤ 2) (toV (mst s) t (xs (i + 1).toNat)) 0 = toV st t (xs (i + 1).toNat) := fun z => by
    rw [pk_t (pk_01.mpr z)]
    unfold toV
    rw [hV.1, hV.qlgF, show (mst s).1 121 = st.1 121 from hp]
  have hop2 : SE (if toC (xs (i + 1).toNat) = 0 then st else st) (mst s) t ∧ TI (if toC (xs (i + 1).toNat) = 0 then st else st) t := by rw [ite_self]; exact ⟨hS, hT⟩
  have h26x : s1.2 26 = (toC (xs (i + 1).toNat)) := h26.trans hCe
  refine g_istore (L' := [aR b, aR (g 533), aR m0, aR o, aI i, aI ((toC (xs (i + 1).toNat))), aI (pk (0 ≤ (xs (i + 1).toNat) ∧ (xs (i + 1).toNat) ≤ 2) (toV (mst s) t (xs (i + 1).toNat)) 0)]) rfl rfl ?_
  refine g_aload_n rfl rfl ?_
  refine g_V (z := yMd_thrown) (e := 1) (A := []) (rest := []) (v := aI ((toC (xs (i + 1).toNat)))) (P := fun h2 => h2 = hh2) rfl rfl rfl rfl rfl rfl (by omega) hB.2.1.ob hB.2.1.b0 ((by rw [← h26x]; exact m_thrown hB.2.1)) ?_
  intro hh9 he9
  rw [he9]
  clear he9 hh9
  refine g_iload rfl rfl ?_
  refine g_icmpeq rfl rfl (fun c3 => ?_) (fun c => absurd c (fun q => q rfl))
  refine g_iload rfl rfl ?_
  refine g_ifne rfl rfl (fun c4 => ?_) (fun c4 => ?_)
  · skip
    have y9 := c4
    refine g_goto rfl rfl ?_
    have hfin := op_end hR1 hS1 hop2
    exact kk _ st1 s1 t _ _ ht ⟨_, hB, hM1, hfin.1, hfin.2, h11⟩
  · skip
    have y9 := c4
    rw [hVe y9]
    refine g_aload_n rfl rfl ?_
    refine g_iconst (n := 0) rfl (by decide) ?_
    refine g_lald rfl hB.2.2.2.2 (by omega) ?_
    rw [show F1 (0 : Int).toNat = (toV st t (xs (i + 1).toNat)) from (hfv y9 : F1 0 = (toV st t (xs (i + 1).toNat)))]
    refine g_iload rfl rfl ?_
    refine g_i2l rfl ?_
    refine g_lcmp rfl ?_
    refine g_ifeq rfl rfl (fun c5 => ?_) (fun c => absurd c (fun q => q (lc_self _)))
    refine g_goto rfl rfl ?_
    have hfin := op_end hR1 hS1 hop2
    exact kk _ st1 s1 t _ _ ht ⟨_, hB, hM1, hfin.1, hfin.2, h11⟩
theorem lw_hand (hX : FX b mk N L xs m0 o) (ht : t < 2) (hL : LI b mk N L xs m0 o g t cb sb h st s) (i : Int) (hi0 : 0 ≤ i) (hi7 : i + 7 ≤ (L : Int)) (w5 w6 : AV) (kk : ∀ (h : AH) (st : CS) (s : MS) (t : Nat) (w5 w6 : AV), t < 2 → LI b mk N L xs m0 o g t (cb + 1) (sb + 6) h st s → Go 10 yLw_law 1129 [aR b, aR (g 533), aR m0, aR o, aI i, w5, w6] [] h Q) : Go 10 yLw_law 900 [aR b, aR (g 533), aR m0, aR o, aI i, w5, w6] [] h Q := by
  obtain ⟨F, hB, hM, hS, hT, hb⟩ := hL
  have ht0 := se_t0 hS hb
  have hP := hB.pr ht hS hT
  have hTm := hS.1.ti hT
  have hp : pg s = st.1 121 := hS.2.1
  have hX' := hX
  obtain ⟨xx1, xx2, xx3, xx4, xx5, xx6, xx7⟩ := hX'
  have hV := hS.1
  refine g_aload_n rfl rfl ?_
  refine g_aload_n rfl rfl ?_
  refine g_iload rfl rfl ?_
  refine g_iconst (n := 1) rfl (by decide) ?_
  refine g_iadd rfl (by omega) ?_
  refine g_iald rfl hB.2.2.1 (by omega) ?_
  refine g_V (z := yTY_hand) (e := 1) (A := [aI (xs (i + 1).toNat)]) (rest := []) (v := aI (rat (st.1 121) (xs (i + 1).toNat))) (P := fun h2 => h2 = h) rfl rfl rfl rfl rfl rfl (by omega) (hB.1.ty ht0 ht) hB.1.tyb (c_hand (by omega) hB.1 ht ht0 (xs (i + 1).toNat)) ?_
  intro hh9 he9
  rw [he9]
  clear he9 hh9
  refine g_aload_n rfl rfl ?_
  refine g_aload_n rfl rfl ?_
  refine g_iload rfl rfl ?_
  refine g_iconst (n := 1) rfl (by decide) ?_
  refine g_iadd rfl (by omega) ?_
  refine g_iald rfl hB.2.2.1 (by omega) ?_
  refine g_V (z := yMd_hand) (e := 1) (A := [aI (xs (i + 1).toNat)]) (rest := [aI (rat (st.1 121) (xs (i + 1).toNat))]) (v := aI (rat (st.1 121) (xs (i + 1).toNat)))  rfl rfl rfl rfl rfl rfl (by omega) hB.2.1.ob hB.2.1.b0 ((by rw [← hp]; exact m_hand ht hb hM hB.2.1 (xs (i + 1).toNat))) ?_
  intro hh1 hq
  obtain ⟨s1, hW1, hM1, hS1, h11, h26⟩ := hq
  replace hB := hB.m hX hW1
  refine g_icmpeq rfl rfl (fun c2 => ?_) (fun c => absurd c (fun q => q rfl))
  exact kk _ st s1 t _ _ ht ⟨_, hB.le (by omega) (by omega), hM1, hS.tr hS1, hT, h11⟩
theorem lw_place (hX : FX b mk N L xs m0 o) (ht : t < 2) (hL : LI b mk N L xs m0 o g t cb sb h st s) (i : Int) (hi0 : 0 ≤ i) (hi7 : i + 7 ≤ (L : Int)) (w5 w6 : AV) (kk : ∀ (h : AH) (st : CS) (s : MS) (t : Nat) (w5 w6 : AV), t < 2 → LI b mk N L xs m0 o g t (cb + 1) (sb + 6) h st s → Go 10 yLw_law 1129 [aR b, aR (g 533), aR m0, aR o, aI i, w5, w6] [] h Q) : Go 10 yLw_law 727 [aR b, aR (g 533), aR m0, aR o, aI i, w5, w6] [] h Q := by
  obtain ⟨F, hB, hM, hS, hT, hb⟩ := hL
  have ht0 := se_t0 hS hb
  have hP := hB.pr ht hS hT
  have hTm := hS.1.ti hT
  have hp : pg s = st.1 121 := hS.2.1
  have hX' := hX
  obtain ⟨xx1, xx2, xx3, xx4, xx5, xx6, xx7⟩ := hX'
  have hV := hS.1
  have h14 : s.2 14 = st.2.2.2.2.2 1 := hS.2.2.2
  refine g_aload_n rfl rfl ?_
  refine g_V (z := yTY_place) (e := 1) (A := []) (rest := []) (v := aI (st.2.2.2.2.2 1)) (P := fun h2 => h2 = h) rfl rfl rfl rfl rfl rfl (by omega) (hB.1.ty ht0 ht) hB.1.tyb (c_place hB.1 ht ht0) ?_
  intro hh9 he9
  rw [he9]
  clear he9 hh9
  refine g_aload_n rfl rfl ?_
  refine g_V (z := yMd_place) (e := 1) (A := []) (rest := [aI (st.2.2.2.2.2 1)]) (v := aI (st.2.2.2.2.2 1))  rfl rfl rfl rfl rfl rfl (by omega) hB.2.1.ob hB.2.1.b0 ((by rw [← h14]; exact m_place ht hb hM hB.2.1)) ?_
  intro hh1 hq
  obtain ⟨s1, hW1, hM1, hS1, h11, h26⟩ := hq
  replace hB := hB.m hX hW1
  refine g_icmpeq rfl rfl (fun c2 => ?_) (fun c => absurd c (fun q => q rfl))
  exact kk _ st s1 t _ _ ht ⟨_, hB.le (by omega) (by omega), hM1, hS.tr hS1, hT, h11⟩
theorem lw_read (hX : FX b mk N L xs m0 o) (ht : t < 2) (hL : LI b mk N L xs m0 o g t cb sb h st s) (i : Int) (hi0 : 0 ≤ i) (hi7 : i + 7 ≤ (L : Int)) (w5 w6 : AV) (kk : ∀ (h : AH) (st : CS) (s : MS) (t : Nat) (w5 w6 : AV), t < 2 → LI b mk N L xs m0 o g t (cb + 1) (sb + 6) h st s → Go 10 yLw_law 1129 [aR b, aR (g 533), aR m0, aR o, aI i, w5, w6] [] h Q) : Go 10 yLw_law 714 [aR b, aR (g 533), aR m0, aR o, aI i, w5, w6] [] h Q := by
  obtain ⟨F, hB, hM, hS, hT, hb⟩ := hL
  have ht0 := se_t0 hS hb
  have hP := hB.pr ht hS hT
  have hTm := hS.1.ti hT
  have hp : pg s = st.1 121 := hS.2.1
  have hX' := hX
  obtain ⟨xx1, xx2, xx3, xx4, xx5, xx6, xx7⟩ := hX'
  have hV := hS.1
  have hsh := hB.1.shq
  refine g_aload_n rfl rfl ?_
  refine g_V (z := yTY_read) (e := 1) (A := []) (rest := []) (v := aI ((trT st (1 - t)).1))  rfl rfl rfl rfl rfl rfl (by omega) (hB.1.ty ht0 ht) hB.1.tyb (c_read (by omega) hB.ok hB.1 ht ht0) ?_
  intro hh1 hq
  obtain ⟨st1, hW1, hc1, hc2, hc3⟩ := hq
  replace hB := hB.k hW1
  refine g_aload_n rfl rfl ?_
  refine g_V (z := yMd_read) (e := 1) (A := []) (rest := [aI ((trT st (1 - t)).1)]) (v := aI ((trT st (1 - t)).1))  rfl rfl rfl rfl rfl rfl (by omega) hB.2.1.ob hB.2.1.b0 (m_read (by omega) ht hb hM hB.2.1 (fun i j hi hj e => hsh.2.1 (1 - t) i j (by omega) hi hj e) hp.symm) ?_
  intro hh2 hq
  obtain ⟨s1, hW2, hM1, hp1, h26, hm2, hm3⟩ := hq
  replace hB := hB.m hX hW2
  refine g_icmpeq rfl rfl (fun c3 => ?_) (fun c => absurd c (fun q => q rfl))
  have hpp : (mst s1).1 121 = st1.1 121 := by
    show pg s1 = _
    rw [hp1, hp, hc1]
  by_cases z : (trT st (1 - t)).1 < 0
  · obtain ⟨a1, a2, a3⟩ := hc2 z
    obtain ⟨e1, e2, e3⟩ := hm2 z
    refine kk _ st1 s1 t _ _ ht ⟨_, hB.le (by omega) (by omega), hM1, ⟨(a1.sym.tr hV).tr e1, hpp, ?_, ?_⟩, a1.ti hT, e2⟩
    · show s1.2 11 / 30 = _
      rw [e2, a2]
      omega
    · show s1.2 14 = _
      rw [e3, a3]
  · obtain ⟨a1, a2, a3⟩ := hc3 (by omega)
    obtain ⟨e1, e4, e2, e3⟩ := hm3 (by omega)
    have hvv := a1.sym.tr e1
    refine kk _ st1 s1 (1 - t) _ _ (by omega) ⟨_, hB.le (by omega) (by omega), hM1, ⟨hvv, hpp, ?_, ?_⟩, hvv.sym.ti e4, e2⟩
    · show s1.2 11 / 30 = _
      rw [e2, a2]
      omega
    · show s1.2 14 = _
      rw [e3, a3]
end Lw2
