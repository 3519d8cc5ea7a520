/-! The law: each call by its wrapper. -/
section Lw1
variable {K : KE} {h h2 : AH} {g : Nat → Nat} {st : CS} {cb sb d t N mk o : Nat} {V : Nat → Prop} {F : Nat → Int} {R : CS → Prop} {c v : Int}
theorem g_VO {y : AY} {pc : Nat} {L S : List AV} {Q Qc : AO → AH → Prop} {x n a e : Nat} {z : AY} {A rest fs : List AV} (hd : tb y pc = some (.invokevirtual x, 3)) (hm : tM y.2.1 x = some (0, n, z)) (h1 : S.take n = A) (h2 : S.drop n = aR a :: rest) (hk : ckA A n a rest z = true) (hl : lv z = e) (he : e ≤ d) (hc : h.1 a = some (eO z.2.1 fs)) (hb : h.2.2.2.1 ≤ a) (k : Cal (d - e) z (aR a :: A.reverse) h Qc) (kk : ∀ o h2, Qc o h2 → aftQ d y pc L rest Q o h2) : Go d y pc L S h Q :=
  g_callV hd hm h1 h2 hc hb (ckA_ok hk) hl he (k.mono kk)
/-- cells of the surroundings change -/
theorem WC.fr (hW : WC K h g st cb sb) (e2 : h2.2 = h.2) (ho : ∀ a, ¬ K.1 a → h2.1 a = h.1 a) : WC (K.1, h2.1, K.2.2) h2 g st cb sb := by
  obtain ⟨hd, w1, w2, w3, w4, w5, w6, w7, w8⟩ := hW
  refine ⟨hd, fun c hc => ?_, w2, w3, w4, by rw [e2]; exact w5, fun a ha => ⟨rfl, by rw [e2]; exact (w6 a ha).2⟩, by rw [e2]; exact w7, by rw [e2]; exact w8⟩
  obtain ⟨a1, a2, a3, a4⟩ := w1 c hc
  exact ⟨by rw [ho _ a4]; exact a1, a2, by rw [e2]; exact a3, a4⟩
theorem WC.vk (hW : WC K h g st cb sb) {a : Nat} (ha : K.1 a) : h.1 a = K.2.1 a ∧ a < h.2.1 := by
  obtain ⟨hd, w1, w2, w3, w4, w5, w6, w7, w8⟩ := hW
  exact w6 a ha
theorem WC.bs (hW : WC K h g st cb sb) : h.2.2.2 = K.2.2 := by
  obtain ⟨hd, w1, w2, w3, w4, w5, w6, w7, w8⟩ := hW
  exact w5
theorem WC.bnd (hW : WC K h g st cb sb) : h.2.1 ≤ cb ∧ h.2.2.1 ≤ sb := by
  obtain ⟨hd, w1, w2, w3, w4, w5, w6, w7, w8⟩ := hW
  exact ⟨by omega, by omega⟩
/-- after a wrapper -/
def WQ (V : Nat → Prop) (N mk o : Nat) (g : Nat → Nat) (cb sb : Nat) (h : AH) (R : CS → Prop) (c v : Int) (h2 : AH) : Prop := ∃ st' F, WC (V, h2.1, N, mk) h2 g st' (cb + 1) (sb + 6) ∧ R st' ∧ h2.1 o = some (eA 2 1 F) ∧ (c = 0 → F 0 = v) ∧ ∀ a, V a → a ≠ o → h2.1 a = h.1 a
def WQ0 (V : Nat → Prop) (N mk : Nat) (g : Nat → Nat) (cb sb : Nat) (h : AH) (R : CS → Prop) (h2 : AH) : Prop := ∃ st', WC (V, h2.1, N, mk) h2 g st' (cb + 1) (sb + 6) ∧ R st' ∧ ∀ a, V a → h2.1 a = h.1 a
theorem wq_o (ho : V o) (hF : h.1 o = some (eA 2 1 F)) (hP : ∃ s, WC (V, h.1, N, mk) h2 g s (cb + 1) (sb + 6) ∧ R s) : h2.1 o = some (eA 2 1 F) := by
  obtain ⟨s, hW, _⟩ := hP
  rw [(hW.vk ho).1]
  exact hF
theorem wq_b (hN : N ≤ o) (hP : ∃ s, WC (V, h.1, N, mk) h2 g s (cb + 1) (sb + 6) ∧ R s) : h2.2.2.2.1 ≤ o := by
  obtain ⟨s, hW, _⟩ := hP
  rw [hW.bs]
  exact hN
theorem wq_no (hc : c ≠ 0) (ho : V o) (hF : h.1 o = some (eA 2 1 F)) (hP : ∃ s, WC (V, h.1, N, mk) h2 g s (cb + 1) (sb + 6) ∧ R s) : WQ V N mk o g cb sb h R c v h2 := by
  have e := wq_o ho hF hP
  obtain ⟨s, hW, hR⟩ := hP
  exact ⟨s, F, hW.fr rfl (fun _ _ => rfl), hR, e, fun z => absurd z hc, fun a ha _ => (hW.vk ha).1⟩
theorem wq_0 (hP : ∃ s, WC (V, h.1, N, mk) h2 g s (cb + 1) (sb + 6) ∧ R s) : WQ0 V N mk g cb sb h R h2 := by
  obtain ⟨s, hW, hR⟩ := hP
  exact ⟨s, hW.fr rfl (fun _ _ => rfl), hR, fun a ha => (hW.vk ha).1⟩
theorem wq_ok (ho : V o) (hF : h.1 o = some (eA 2 1 F)) (hP : ∃ s, WC (V, h.1, N, mk) h2 g s (cb + 1) (sb + 6) ∧ R s) : WQ V N mk o g cb sb h R c v (hput h2 o (eA 2 1 (va_up F (0 : Int).toNat v))) := by
  obtain ⟨s, hW, hR⟩ := hP
  refine ⟨s, va_up F (0 : Int).toNat v, hW.fr rfl (fun a ha => ?_), hR, ?_, fun _ => rfl, fun a ha hne => ?_⟩
  · show hup h2.1 o _ a = _
    unfold hup
    rw [if_neg (fun q => ha (by rw [q]; exact ho))]
  · show hup h2.1 o _ o = _
    unfold hup
    rw [if_pos rfl]
  · show hup h2.1 o _ a = _
    unfold hup
    rw [if_neg hne]
    exact (hW.vk ha).1
theorem pk3 {p : Prop} {x y : Int} : pk p x y = x ∨ pk p x y = y := by
  by_cases z : p
  · exact Or.inl (pk_t z)
  · exact Or.inr (pk_f z)
theorem w_make (hd8 : 8 ≤ d) (hW : WC (V, h.1, N, mk) h g st cb sb) (ht : t < 2) (ht0 : st.2.2.2.2.2 0 = (t : Int)) (ho : V o) (hN : N ≤ o) (hFo : h.1 o = some (eA 2 1 F)) (inn kind w n off : Int) : Cal d yLw_make [aR (g 533), aI inn, aI kind, aL w, aI n, aI off, aR o] h (RV (some (aI (mkC st t inn kind w n off))) (WQ V N mk o g cb sb h (fun s => SE (if mkC st t inn kind w n off = 0 then mkF st t inn kind w n off else st) s t) (mkC st t inn kind w n off) (((st.2.2.2.1 t) : Nat) : Int))) := by
  show Go _ _ 0 [aR (g 533), aI inn, aI kind, aL w, none, aI n, aI off, aR o, none] [] _ _
  refine g_aload rfl rfl ?_
  refine g_iconst (n := 0) rfl (by decide) ?_
  refine g_aload_n rfl rfl ?_
  refine g_iload_n rfl rfl ?_
  refine g_iload_n rfl rfl ?_
  refine g_lload_n rfl rfl ?_
  refine g_iload rfl rfl ?_
  refine g_iload rfl rfl ?_
  refine g_VO (z := yTY_make) (e := 1) (A := [aI off, aI n, aL w, aI kind, aI inn]) (rest := [aI 0, aR o]) rfl rfl rfl rfl rfl rfl (by omega) (hW.ty ht0 ht) hW.tyb (c_make (by omega) hW ht ht0 inn kind w n off) (fun o' h2 hq => ?_)
  obtain ⟨hcase, hPO⟩ := hq
  have hcr : (mkC st t inn kind w n off) = 0 ∨ (mkC st t inn kind w n off) = 1 ∨ (mkC st t inn kind w n off) = 2 := by
    unfold mkC
    rcases pk3 (p := _) (x := _) (y := _) with z | z
    · rw [z]
      rcases pk3 (p := _) (x := _) (y := _) with z | z
      · rw [z]; exact Or.inr (Or.inr rfl)
      · rw [z]; exact Or.inl rfl
    · rw [z]; exact Or.inr (Or.inl rfl)
  rcases hcase with ⟨hc, rfl⟩ | ⟨hc, x, rfl⟩ | ⟨hc, x, rfl⟩ | ⟨hc, x, rfl⟩
  · show Go d yLw_make 14 [aR (g 533), aI inn, aI kind, aL w, none, aI n, aI off, aR o, none] [aI ((((st.2.2.2.1 t) : Nat) : Int)), aI 0, aR o] h2 (RV (some (aI (mkC st t inn kind w n off))) (WQ V N mk o g cb sb h (fun s => SE (if mkC st t inn kind w n off = 0 then mkF st t inn kind w n off else st) s t) (mkC st t inn kind w n off) (((st.2.2.2.1 t) : Nat) : Int)))
    have hFo2 := wq_o ho hFo hPO
    have hNo2 := wq_b hN hPO
    have hfin := wq_ok (c := (mkC st t inn kind w n off)) (v := (((st.2.2.2.1 t) : Nat) : Int)) ho hFo hPO
    refine g_i2l rfl ?_
    refine g_last rfl hFo2 hNo2 (by omega) ?_
    generalize hg_hh1 : hput h2 o (eA 2 1 (va_up F (0 : Int).toNat ((((st.2.2.2.1 t) : Nat) : Int)))) = hh1
    rw [hg_hh1] at hfin
    refine g_goto rfl rfl ?_
    refine g_iconst (n := 0) rfl (by decide) ?_
    have hv : (0 : Int) = (mkC st t inn kind w n off) := hc.symm
    exact r_i rfl rfl hv hfin
  · show Go d yLw_make 19 [aR (g 533), aI inn, aI kind, aL w, none, aI n, aI off, aR o, none] [aR x] h2 (RV (some (aI (mkC st t inn kind w n off))) (WQ V N mk o g cb sb h (fun s => SE (if mkC st t inn kind w n off = 0 then mkF st t inn kind w n off else st) s t) (mkC st t inn kind w n off) (((st.2.2.2.1 t) : Nat) : Int)))
    have hfin := wq_no (c := (mkC st t inn kind w n off)) (v := (((st.2.2.2.1 t) : Nat) : Int)) (by omega) ho hFo hPO
    refine g_astore (L' := [aR (g 533), aI inn, aI kind, aL w, none, aI n, aI off, aR o, aR x]) rfl rfl ?_
    refine g_iconst (n := 1) rfl (by decide) ?_
    exact r_i rfl rfl hc.symm hfin
  · show Go d yLw_make 23 [aR (g 533), aI inn, aI kind, aL w, none, aI n, aI off, aR o, none] [aR x] h2 (RV (some (aI (mkC st t inn kind w n off))) (WQ V N mk o g cb sb h (fun s => SE (if mkC st t inn kind w n off = 0 then mkF st t inn kind w n off else st) s t) (mkC st t inn kind w n off) (((st.2.2.2.1 t) : Nat) : Int)))
    have hfin := wq_no (c := (mkC st t inn kind w n off)) (v := (((st.2.2.2.1 t) : Nat) : Int)) (by omega) ho hFo hPO
    refine g_astore (L' := [aR (g 533), aI inn, aI kind, aL w, none, aI n, aI off, aR o, aR x]) rfl rfl ?_
    refine g_iconst (n := 2) rfl (by decide) ?_
    exact r_i rfl rfl hc.symm hfin
  · exact absurd hc (by omega)
theorem w_rename (hd8 : 8 ≤ d) (hW : WC (V, h.1, N, mk) h g st cb sb) (ht : t < 2) (ht0 : st.2.2.2.2.2 0 = (t : Int)) (hT : TI st t) (ho : V o) (hN : N ≤ o) (hFo : h.1 o = some (eA 2 1 F)) (node w n : Int) : Cal d yLw_rename [aR (g 533), aI node, aL w, aI n, aR o] h (RV (some (aI (rnC st t node w n))) (WQ V N mk o g cb sb h (fun s => SE (if rnC st t node w n = 0 then rnF st t node w n else st) s t) (rnC st t node w n) ((rnL st t node w n).length : Int))) := by
  show Go _ _ 0 [aR (g 533), aI node, aL w, none, aI n, aR o, none] [] _ _
  refine g_aload rfl rfl ?_
  refine g_iconst (n := 0) rfl (by decide) ?_
  refine g_aload_n rfl rfl ?_
  refine g_iload_n rfl rfl ?_
  refine g_lload_n rfl rfl ?_
  refine g_iload rfl rfl ?_
  refine g_VO (z := yTY_rename) (e := 1) (A := [aI n, aL w, aI node]) (rest := [aI 0, aR o]) rfl rfl rfl rfl rfl rfl (by omega) (hW.ty ht0 ht) hW.tyb (c_rename (by omega) hT hW ht ht0 node w n) (fun o' h2 hq => ?_)
  obtain ⟨hcase, hPO⟩ := hq
  have hcr : (rnC st t node w n) = 0 ∨ (rnC st t node w n) = 1 ∨ (rnC st t node w n) = 2 := by
    unfold rnC
    rcases pk3 (p := _) (x := _) (y := _) with z | z
    · rw [z]
      rcases pk3 (p := _) (x := _) (y := _) with z | z
      · rw [z]; exact Or.inr (Or.inr rfl)
      · rw [z]; exact Or.inl rfl
    · rw [z]; exact Or.inr (Or.inl rfl)
  rcases hcase with ⟨hc, rfl⟩ | ⟨hc, x, rfl⟩ | ⟨hc, x, rfl⟩ | ⟨hc, x, rfl⟩
  · show Go d yLw_rename 11 [aR (g 533), aI node, aL w, none, aI n, aR o, none] [aI (((rnL st t node w n).length : Int)), aI 0, aR o] h2 (RV (some (aI (rnC st t node w n))) (WQ V N mk o g cb sb h (fun s => SE (if rnC st t node w n = 0 then rnF st t node w n else st) s t) (rnC st t node w n) ((rnL st t node w n).length : Int)))
    have hFo2 := wq_o ho hFo hPO
    have hNo2 := wq_b hN hPO
    have hfin := wq_ok (c := (rnC st t node w n)) (v := ((rnL st t node w n).length : Int)) ho hFo hPO
    refine g_i2l rfl ?_
    refine g_last rfl hFo2 hNo2 (by omega) ?_
    generalize hg_hh1 : hput h2 o (eA 2 1 (va_up F (0 : Int).toNat (((rnL st t node w n).length : Int)))) = hh1
    rw [hg_hh1] at hfin
    refine g_goto rfl rfl ?_
    refine g_iconst (n := 0) rfl (by decide) ?_
    have hv : (0 : Int) = (rnC st t node w n) := hc.symm
    exact r_i rfl rfl hv hfin
  · show Go d yLw_rename 16 [aR (g 533), aI node, aL w, none, aI n, aR o, none] [aR x] h2 (RV (some (aI (rnC st t node w n))) (WQ V N mk o g cb sb h (fun s => SE (if rnC st t node w n = 0 then rnF st t node w n else st) s t) (rnC st t node w n) ((rnL st t node w n).length : Int)))
    have hfin := wq_no (c := (rnC st t node w n)) (v := ((rnL st t node w n).length : Int)) (by omega) ho hFo hPO
    refine g_astore (L' := [aR (g 533), aI node, aL w, none, aI n, aR o, aR x]) rfl rfl ?_
    refine g_iconst (n := 1) rfl (by decide) ?_
    exact r_i rfl rfl hc.symm hfin
  · show Go d yLw_rename 20 [aR (g 533), aI node, aL w, none, aI n, aR o, none] [aR x] h2 (RV (some (aI (rnC st t node w n))) (WQ V N mk o g cb sb h (fun s => SE (if rnC st t node w n = 0 then rnF st t node w n else st) s t) (rnC st t node w n) ((rnL st t node w n).length : Int)))
    have hfin := wq_no (c := (rnC st t node w n)) (v := ((rnL st t node w n).length : Int)) (by omega) ho hFo hPO
    refine g_astore (L' := [aR (g 533), aI node, aL w, none, aI n, aR o, aR x]) rfl rfl ?_
    refine g_iconst (n := 2) rfl (by decide) ?_
    exact r_i rfl rfl hc.symm hfin
  · exact absurd hc (by omega)
theorem w_fill (hd8 : 8 ≤ d) (hW : WC (V, h.1, N, mk) h g st cb sb) (ht : t < 2) (ht0 : st.2.2.2.2.2 0 = (t : Int)) (hT : TI st t) (ho : V o) (hN : N ≤ o) (hFo : h.1 o = some (eA 2 1 F)) (node w n : Int) : Cal d yLw_fill [aR (g 533), aI node, aL w, aI n, aR o] h (RV (some (aI (fiC st t node w n))) (WQ V N mk o g cb sb h (fun s => SE (if fiC st t node w n = 0 then fiF st t node w n else st) s t) (fiC st t node w n) ((fiL st t node w n).length : Int))) := by
  show Go _ _ 0 [aR (g 533), aI node, aL w, none, aI n, aR o, none] [] _ _
  refine g_aload rfl rfl ?_
  refine g_iconst (n := 0) rfl (by decide) ?_
  refine g_aload_n rfl rfl ?_
  refine g_iload_n rfl rfl ?_
  refine g_lload_n rfl rfl ?_
  refine g_iload rfl rfl ?_
  refine g_VO (z := yTY_fill) (e := 1) (A := [aI n, aL w, aI node]) (rest := [aI 0, aR o]) rfl rfl rfl rfl rfl rfl (by omega) (hW.ty ht0 ht) hW.tyb (c_fill (by omega) hT hW ht ht0 node w n) (fun o' h2 hq => ?_)
  obtain ⟨hcase, hPO⟩ := hq
  have hcr : (fiC st t node w n) = 0 ∨ (fiC st t node w n) = 1 ∨ (fiC st t node w n) = 2 := by
    unfold fiC
    rcases pk3 (p := _) (x := _) (y := _) with z | z
    · rw [z]
      rcases pk3 (p := _) (x := _) (y := _) with z | z
      · rw [z]; exact Or.inr (Or.inr rfl)
      · rw [z]; exact Or.inl rfl
    · rw [z]; exact Or.inr (Or.inl rfl)
  rcases hcase with ⟨hc, rfl⟩ | ⟨hc, x, rfl⟩ | ⟨hc, x, rfl⟩ | ⟨hc, x, rfl⟩
  · show Go d yLw_fill 11 [aR (g 533), aI node, aL w, none, aI n, aR o, none] [aI (((fiL st t node w n).length : Int)), aI 0, aR o] h2 (RV (some (aI (fiC st t node w n))) (WQ V N mk o g cb sb h (fun s => SE (if fiC st t node w n = 0 then fiF st t node w n else st) s t) (fiC st t node w n) ((fiL st t node w n).length : Int)))
    have hFo2 := wq_o ho hFo hPO
    have hNo2 := wq_b hN hPO
    have hfin := wq_ok (c := (fiC st t node w n)) (v := ((fiL st t node w n).length : Int)) ho hFo hPO
    refine g_i2l rfl ?_
    refine g_last rfl hFo2 hNo2 (by omega) ?_
    generalize hg_hh1 : hput h2 o (eA 2 1 (va_up F (0 : Int).toNat (((fiL st t node w n).length : Int)))) = hh1
    rw [hg_hh1] at hfin
    refine g_goto rfl rfl ?_
    refine g_iconst (n := 0) rfl (by decide) ?_
    have hv : (0 : Int) = (fiC st t node w n) := hc.symm
    exact r_i rfl rfl hv hfin
  · show Go d yLw_fill 16 [aR (g 533), aI node, aL w, none, aI n, aR o, none] [aR x] h2 (RV (some (aI (fiC st t node w n))) (WQ V N mk o g cb sb h (fun s => SE (if fiC st t node w n = 0 then fiF st t node w n else st) s t) (fiC st t node w n) ((fiL st t node w n).length : Int)))
    have hfin := wq_no (c := (fiC st t node w n)) (v := ((fiL st t node w n).length : Int)) (by omega) ho hFo hPO
    refine g_astore (L' := [aR (g 533), aI node, aL w, none, aI n, aR o, aR x]) rfl rfl ?_
    refine g_iconst (n := 1) rfl (by decide) ?_
    exact r_i rfl rfl hc.symm hfin
  · show Go d yLw_fill 20 [aR (g 533), aI node, aL w, none, aI n, aR o, none] [aR x] h2 (RV (some (aI (fiC st t node w n))) (WQ V N mk o g cb sb h (fun s => SE (if fiC st t node w n = 0 then fiF st t node w n else st) s t) (fiC st t node w n) ((fiL st t node w n).length : Int)))
    have hfin := wq_no (c := (fiC st t node w n)) (v := ((fiL st t node w n).length : Int)) (by omega) ho hFo hPO
    refine g_astore (L' := [aR (g 533), aI node, aL w, none, aI n, aR o, aR x]) rfl rfl ?_
    refine g_iconst (n := 2) rfl (by decide) ?_
    exact r_i rfl rfl hc.symm hfin
  · exact absurd hc (by omega)
theorem w_contents (hd8 : 8 ≤ d) (hW : WC (V, h.1, N, mk) h g st cb sb) (ht : t < 2) (ht0 : st.2.2.2.2.2 0 = (t : Int)) (node len seed : Int) : Cal d yLw_contents [aR (g 533), aI node, aI len, aI seed] h (RV (some (aI (coC st t node len seed))) (WQ0 V N mk g cb sb h (fun s => SE (if coC st t node len seed = 0 then coF st t node len seed else st) s t))) := by
  show Go _ _ 0 [aR (g 533), aI node, aI len, aI seed, none] [] _ _
  refine g_aload_n rfl rfl ?_
  refine g_iload_n rfl rfl ?_
  refine g_iload_n rfl rfl ?_
  refine g_iload_n rfl rfl ?_
  refine g_VO (z := yTY_contents) (e := 1) (A := [aI seed, aI len, aI node]) (rest := []) rfl rfl rfl rfl rfl rfl (by omega) (hW.ty ht0 ht) hW.tyb (c_contents (by omega) hW ht ht0 node len seed) (fun o' h2 hq => ?_)
  obtain ⟨hcase, hPO⟩ := hq
  have hcr : (coC st t node len seed) = 0 ∨ (coC st t node len seed) = 1 := by
    unfold coC
    exact pk3
  rcases hcase with ⟨hc, rfl⟩ | ⟨hc, x, rfl⟩ | ⟨hc, x, rfl⟩ | ⟨hc, x, rfl⟩
  · show Go d yLw_contents 7 [aR (g 533), aI node, aI len, aI seed, none] [] h2 (RV (some (aI (coC st t node len seed))) (WQ0 V N mk g cb sb h (fun s => SE (if coC st t node len seed = 0 then coF st t node len seed else st) s t)))
    have hfin := wq_0 hPO
    refine g_goto rfl rfl ?_
    refine g_iconst (n := 0) rfl (by decide) ?_
    have hv : (0 : Int) = (coC st t node len seed) := hc.symm
    exact r_i rfl rfl hv hfin
  · show Go d yLw_contents 10 [aR (g 533), aI node, aI len, aI seed, none] [aR x] h2 (RV (some (aI (coC st t node len seed))) (WQ0 V N mk g cb sb h (fun s => SE (if coC st t node len seed = 0 then coF st t node len seed else st) s t)))
    have hfin := wq_0 hPO
    refine g_astore (L' := [aR (g 533), aI node, aI len, aI seed, aR x]) rfl rfl ?_
    refine g_iconst (n := 1) rfl (by decide) ?_
    exact r_i rfl rfl hc.symm hfin
  · exact absurd hc (by omega)
  · exact absurd hc (by omega)
theorem w_set (hd8 : 8 ≤ d) (hW : WC (V, h.1, N, mk) h g st cb sb) (ht : t < 2) (ht0 : st.2.2.2.2.2 0 = (t : Int)) (node m ow u : Int) : Cal d yLw_set [aR (g 533), aI node, aI m, aI ow, aI u] h (RV (some (aI (seC st t node m ow u))) (WQ0 V N mk g cb sb h (fun s => SE (if seC st t node m ow u = 0 then seF st t node m ow u else st) s t))) := by
  show Go _ _ 0 [aR (g 533), aI node, aI m, aI ow, aI u, none] [] _ _
  refine g_aload_n rfl rfl ?_
  refine g_iload_n rfl rfl ?_
  refine g_iload_n rfl rfl ?_
  refine g_iload_n rfl rfl ?_
  refine g_iload rfl rfl ?_
  refine g_VO (z := yTY_set) (e := 1) (A := [aI u, aI ow, aI m, aI node]) (rest := []) rfl rfl rfl rfl rfl rfl (by omega) (hW.ty ht0 ht) hW.tyb (c_set (by omega) hW ht ht0 node m ow u) (fun o' h2 hq => ?_)
  obtain ⟨hcase, hPO⟩ := hq
  have hcr : (seC st t node m ow u) = 0 ∨ (seC st t node m ow u) = 1 := by
    unfold seC
    exact pk3
  rcases hcase with ⟨hc, rfl⟩ | ⟨hc, x, rfl⟩ | ⟨hc, x, rfl⟩ | ⟨hc, x, rfl⟩
  · show Go d yLw_set 9 [aR (g 533), aI node, aI m, aI ow, aI u, none] [] h2 (RV (some (aI (seC st t node m ow u))) (WQ0 V N mk g cb sb h (fun s => SE (if seC st t node m ow u = 0 then seF st t node m ow u else st) s t)))
    have hfin := wq_0 hPO
    refine g_goto rfl rfl ?_
    refine g_iconst (n := 0) rfl (by decide) ?_
    have hv : (0 : Int) = (seC st t node m ow u) := hc.symm
    exact r_i rfl rfl hv hfin
  · show Go d yLw_set 12 [aR (g 533), aI node, aI m, aI ow, aI u, none] [aR x] h2 (RV (some (aI (seC st t node m ow u))) (WQ0 V N mk g cb sb h (fun s => SE (if seC st t node m ow u = 0 then seF st t node m ow u else st) s t)))
    have hfin := wq_0 hPO
    refine g_astore (L' := [aR (g 533), aI node, aI m, aI ow, aI u, aR x]) rfl rfl ?_
    refine g_iconst (n := 1) rfl (by decide) ?_
    exact r_i rfl rfl hc.symm hfin
  · exact absurd hc (by omega)
  · exact absurd hc (by omega)
theorem w_remove (hd8 : 8 ≤ d) (hW : WC (V, h.1, N, mk) h g st cb sb) (ht : t < 2) (ht0 : st.2.2.2.2.2 0 = (t : Int)) (hT : TI st t) (ho : V o) (hN : N ≤ o) (hFo : h.1 o = some (eA 2 1 F)) (node : Int) : Cal d yLw_remove [aR (g 533), aI node, aR o] h (RV (some (aI (rmC st t node))) (WQ V N mk o g cb sb h (fun s => (rmC st t node = 0 → DR st s t node.toNat ∧ s.1 121 = st.1 121 ∧ s.2.2.2.2.2 = st.2.2.2.2.2) ∧ (rmC st t node ≠ 0 → SE st s t)) (rmC st t node) ((((st.2.2.2.1 t) : Nat) : Int) - kp st t node.toNat ((st.2.2.2.1 t))))) := by
  show Go _ _ 0 [aR (g 533), aI node, aR o, none] [] _ _
  refine g_aload_n rfl rfl ?_
  refine g_iconst (n := 0) rfl (by decide) ?_
  refine g_aload_n rfl rfl ?_
  refine g_iload_n rfl rfl ?_
  refine g_VO (z := yTY_remove) (e := 1) (A := [aI node]) (rest := [aI 0, aR o]) rfl rfl rfl rfl rfl rfl (by omega) (hW.ty ht0 ht) hW.tyb (c_remove (by omega) hT hW ht ht0 node) (fun o' h2 hq => ?_)
  obtain ⟨hcase, hPO⟩ := hq
  have hcr : (rmC st t node) = 0 ∨ (rmC st t node) = 1 := by
    unfold rmC
    exact pk3
  rcases hcase with ⟨hc, rfl⟩ | ⟨hc, x, rfl⟩ | ⟨hc, x, rfl⟩ | ⟨hc, x, rfl⟩
  · show Go d yLw_remove 7 [aR (g 533), aI node, aR o, none] [aI (((((st.2.2.2.1 t) : Nat) : Int) - kp st t node.toNat ((st.2.2.2.1 t)))), aI 0, aR o] h2 (RV (some (aI (rmC st t node))) (WQ V N mk o g cb sb h (fun s => (rmC st t node = 0 → DR st s t node.toNat ∧ s.1 121 = st.1 121 ∧ s.2.2.2.2.2 = st.2.2.2.2.2) ∧ (rmC st t node ≠ 0 → SE st s t)) (rmC st t node) ((((st.2.2.2.1 t) : Nat) : Int) - kp st t node.toNat ((st.2.2.2.1 t)))))
    have hFo2 := wq_o ho hFo hPO
    have hNo2 := wq_b hN hPO
    have hfin := wq_ok (c := (rmC st t node)) (v := ((((st.2.2.2.1 t) : Nat) : Int) - kp st t node.toNat ((st.2.2.2.1 t)))) ho hFo hPO
    refine g_i2l rfl ?_
    refine g_last rfl hFo2 hNo2 (by omega) ?_
    generalize hg_hh1 : hput h2 o (eA 2 1 (va_up F (0 : Int).toNat (((((st.2.2.2.1 t) : Nat) : Int) - kp st t node.toNat ((st.2.2.2.1 t)))))) = hh1
    rw [hg_hh1] at hfin
    refine g_goto rfl rfl ?_
    refine g_iconst (n := 0) rfl (by decide) ?_
    have hv : (0 : Int) = (rmC st t node) := hc.symm
    exact r_i rfl rfl hv hfin
  · show Go d yLw_remove 12 [aR (g 533), aI node, aR o, none] [aR x] h2 (RV (some (aI (rmC st t node))) (WQ V N mk o g cb sb h (fun s => (rmC st t node = 0 → DR st s t node.toNat ∧ s.1 121 = st.1 121 ∧ s.2.2.2.2.2 = st.2.2.2.2.2) ∧ (rmC st t node ≠ 0 → SE st s t)) (rmC st t node) ((((st.2.2.2.1 t) : Nat) : Int) - kp st t node.toNat ((st.2.2.2.1 t)))))
    have hfin := wq_no (c := (rmC st t node)) (v := ((((st.2.2.2.1 t) : Nat) : Int) - kp st t node.toNat ((st.2.2.2.1 t)))) (by omega) ho hFo hPO
    refine g_astore_n (L' := [aR (g 533), aI node, aR o, aR x]) rfl rfl ?_
    refine g_iconst (n := 1) rfl (by decide) ?_
    exact r_i rfl rfl hc.symm hfin
  · exact absurd hc (by omega)
  · exact absurd hc (by omega)
theorem w_write (hd8 : 8 ≤ d) (hW : WC (V, h.1, N, mk) h g st cb sb) (ht : t < 2) (ht0 : st.2.2.2.2.2 0 = (t : Int)) (hT : TI st t) (hK : KOK (V, h.1, N, mk)) (ho : V o) (hN : N ≤ o) (hFo : h.1 o = some (eA 2 1 F)) : Cal d yLw_write [aR (g 533), aR o] h (RV (some (aI (pk (bfF st t ((st.2.2.2.1 t) - 1) 1 2 ≠ -1) 0 1))) (WQ V N mk o g cb sb h (fun s => SE (if wrC st t = 0 then uR st 121 (wrT st t (bfF st t ((st.2.2.2.1 t) - 1) 1 2)).1 else st) s t) (wrC st t) (bfF st t ((st.2.2.2.1 t) - 1) 1 2))) := by
  show Go _ _ 0 [aR (g 533), aR o, none] [] _ _
  refine g_aload_n rfl rfl ?_
  refine g_iconst (n := 0) rfl (by decide) ?_
  refine g_aload_n rfl rfl ?_
  refine g_VO (z := yTY_write) (e := 1) (A := []) (rest := [aI 0, aR o]) rfl rfl rfl rfl rfl rfl (by omega) (hW.ty ht0 ht) hW.tyb (c_write (by omega) hK hT hW ht ht0) (fun o' h2 hq => ?_)
  obtain ⟨hcase, hPO⟩ := hq
  have hcr : (wrC st t) = 0 ∨ (wrC st t) = 3 := by
    unfold wrC
    exact pk3
  rcases hcase with ⟨hc, rfl⟩ | ⟨hc, x, rfl⟩ | ⟨hc, x, rfl⟩ | ⟨hc, x, rfl⟩
  · show Go d yLw_write 6 [aR (g 533), aR o, none] [aI ((bfF st t ((st.2.2.2.1 t) - 1) 1 2)), aI 0, aR o] h2 (RV (some (aI (pk (bfF st t ((st.2.2.2.1 t) - 1) 1 2 ≠ -1) 0 1))) (WQ V N mk o g cb sb h (fun s => SE (if wrC st t = 0 then uR st 121 (wrT st t (bfF st t ((st.2.2.2.1 t) - 1) 1 2)).1 else st) s t) (wrC st t) (bfF st t ((st.2.2.2.1 t) - 1) 1 2)))
    have hFo2 := wq_o ho hFo hPO
    have hNo2 := wq_b hN hPO
    have hfin := wq_ok (c := (wrC st t)) (v := (bfF st t ((st.2.2.2.1 t) - 1) 1 2)) ho hFo hPO
    refine g_i2l rfl ?_
    refine g_last rfl hFo2 hNo2 (by omega) ?_
    generalize hg_hh1 : hput h2 o (eA 2 1 (va_up F (0 : Int).toNat ((bfF st t ((st.2.2.2.1 t) - 1) 1 2)))) = hh1
    rw [hg_hh1] at hfin
    refine g_goto rfl rfl ?_
    refine g_iconst (n := 0) rfl (by decide) ?_
    have hv : (0 : Int) = (pk (bfF st t ((st.2.2.2.1 t) - 1) 1 2 ≠ -1) 0 1) := ((pk_t (Classical.byContradiction fun q => by have e : wrC st t = 3 := pk_f q; omega)).symm)
    exact r_i rfl rfl hv hfin
  · exact absurd hc (by omega)
  · exact absurd hc (by omega)
  · show Go d yLw_write 11 [aR (g 533), aR o, none] [aR x] h2 (RV (some (aI (pk (bfF st t ((st.2.2.2.1 t) - 1) 1 2 ≠ -1) 0 1))) (WQ V N mk o g cb sb h (fun s => SE (if wrC st t = 0 then uR st 121 (wrT st t (bfF st t ((st.2.2.2.1 t) - 1) 1 2)).1 else st) s t) (wrC st t) (bfF st t ((st.2.2.2.1 t) - 1) 1 2)))
    have hfin := wq_no (c := (wrC st t)) (v := (bfF st t ((st.2.2.2.1 t) - 1) 1 2)) (by omega) ho hFo hPO
    refine g_astore_n (L' := [aR (g 533), aR o, aR x]) rfl rfl ?_
    refine g_iconst (n := 1) rfl (by decide) ?_
    exact r_i rfl rfl ((pk_f (fun q => by have e : wrC st t = 0 := pk_t q; omega)).symm) hfin
theorem w_alter (hd8 : 8 ≤ d) (hW : WC (V, h.1, N, mk) h g st cb sb) (ht : t < 2) (ht0 : st.2.2.2.2.2 0 = (t : Int)) (ho : V o) (hN : N ≤ o) (hFo : h.1 o = some (eA 2 1 F)) (i b : Int) : Cal d yLw_alter [aR (g 533), aI i, aI b, aR o] h (RV (some (aI (alC st i b))) (WQ V N mk o g cb sb h (fun s => SE (if alC st i b = 0 then uR st 121 (rput (st.1 121) i b) else st) s t) (alC st i b) (rat (st.1 121) i))) := by
  show Go _ _ 0 [aR (g 533), aI i, aI b, aR o, none] [] _ _
  refine g_aload_n rfl rfl ?_
  refine g_iconst (n := 0) rfl (by decide) ?_
  refine g_aload_n rfl rfl ?_
  refine g_iload_n rfl rfl ?_
  refine g_iload_n rfl rfl ?_
  refine g_VO (z := yTY_alter) (e := 1) (A := [aI b, aI i]) (rest := [aI 0, aR o]) rfl rfl rfl rfl rfl rfl (by omega) (hW.ty ht0 ht) hW.tyb (c_alter (by omega) hW ht ht0 i b) (fun o' h2 hq => ?_)
  obtain ⟨hcase, hPO⟩ := hq
  have hcr : (alC st i b) = 0 ∨ (alC st i b) = 1 := by
    unfold alC
    exact pk3
  rcases hcase with ⟨hc, rfl⟩ | ⟨hc, x, rfl⟩ | ⟨hc, x, rfl⟩ | ⟨hc, x, rfl⟩
  · show Go d yLw_alter 8 [aR (g 533), aI i, aI b, aR o, none] [aI ((rat (st.1 121) i)), aI 0, aR o] h2 (RV (some (aI (alC st i b))) (WQ V N mk o g cb sb h (fun s => SE (if alC st i b = 0 then uR st 121 (rput (st.1 121) i b) else st) s t) (alC st i b) (rat (st.1 121) i)))
    have hFo2 := wq_o ho hFo hPO
    have hNo2 := wq_b hN hPO
    have hfin := wq_ok (c := (alC st i b)) (v := (rat (st.1 121) i)) ho hFo hPO
    refine g_i2l rfl ?_
    refine g_last rfl hFo2 hNo2 (by omega) ?_
    generalize hg_hh1 : hput h2 o (eA 2 1 (va_up F (0 : Int).toNat ((rat (st.1 121) i)))) = hh1
    rw [hg_hh1] at hfin
    refine g_goto rfl rfl ?_
    refine g_iconst (n := 0) rfl (by decide) ?_
    have hv : (0 : Int) = (alC st i b) := hc.symm
    exact r_i rfl rfl hv hfin
  · show Go d yLw_alter 13 [aR (g 533), aI i, aI b, aR o, none] [aR x] h2 (RV (some (aI (alC st i b))) (WQ V N mk o g cb sb h (fun s => SE (if alC st i b = 0 then uR st 121 (rput (st.1 121) i b) else st) s t) (alC st i b) (rat (st.1 121) i)))
    have hfin := wq_no (c := (alC st i b)) (v := (rat (st.1 121) i)) (by omega) ho hFo hPO
    refine g_astore (L' := [aR (g 533), aI i, aI b, aR o, aR x]) rfl rfl ?_
    refine g_iconst (n := 1) rfl (by decide) ?_
    exact r_i rfl rfl hc.symm hfin
  · exact absurd hc (by omega)
  · exact absurd hc (by omega)
theorem w_check (hd8 : 8 ≤ d) (hW : WC (V, h.1, N, mk) h g st cb sb) (ht : t < 2) (ht0 : st.2.2.2.2.2 0 = (t : Int)) (ho : V o) (hN : N ≤ o) (hFo : h.1 o = some (eA 2 1 F)) (b : Int) : Cal d yLw_check [aR (g 533), aI b, aR o] h (RV (some (aI (ckC st b))) (WQ V N mk o g cb sb h (fun s => SE (if ckC st b = 0 then uR st 121 (pchk (st.1 121) b) else st) s t) (ckC st b) (sums (st.1 121) b 512))) := by
  show Go _ _ 0 [aR (g 533), aI b, aR o, none] [] _ _
  refine g_aload_n rfl rfl ?_
  refine g_iconst (n := 0) rfl (by decide) ?_
  refine g_aload_n rfl rfl ?_
  refine g_iload_n rfl rfl ?_
  refine g_VO (z := yTY_check) (e := 1) (A := [aI b]) (rest := [aI 0, aR o]) rfl rfl rfl rfl rfl rfl (by omega) (hW.ty ht0 ht) hW.tyb (c_check (by omega) hW ht ht0 b) (fun o' h2 hq => ?_)
  obtain ⟨hcase, hPO⟩ := hq
  have hcr : (ckC st b) = 0 ∨ (ckC st b) = 1 := by
    unfold ckC
    exact pk3
  rcases hcase with ⟨hc, rfl⟩ | ⟨hc, x, rfl⟩ | ⟨hc, x, rfl⟩ | ⟨hc, x, rfl⟩
  · show Go d yLw_check 7 [aR (g 533), aI b, aR o, none] [aI ((sums (st.1 121) b 512)), aI 0, aR o] h2 (RV (some (aI (ckC st b))) (WQ V N mk o g cb sb h (fun s => SE (if ckC st b = 0 then uR st 121 (pchk (st.1 121) b) else st) s t) (ckC st b) (sums (st.1 121) b 512)))
    have hFo2 := wq_o ho hFo hPO
    have hNo2 := wq_b hN hPO
    have hfin := wq_ok (c := (ckC st b)) (v := (sums (st.1 121) b 512)) ho hFo hPO
    refine g_i2l rfl ?_
    refine g_last rfl hFo2 hNo2 (by omega) ?_
    generalize hg_hh1 : hput h2 o (eA 2 1 (va_up F (0 : Int).toNat ((sums (st.1 121) b 512)))) = hh1
    rw [hg_hh1] at hfin
    refine g_goto rfl rfl ?_
    refine g_iconst (n := 0) rfl (by decide) ?_
    have hv : (0 : Int) = (ckC st b) := hc.symm
    exact r_i rfl rfl hv hfin
  · show Go d yLw_check 12 [aR (g 533), aI b, aR o, none] [aR x] h2 (RV (some (aI (ckC st b))) (WQ V N mk o g cb sb h (fun s => SE (if ckC st b = 0 then uR st 121 (pchk (st.1 121) b) else st) s t) (ckC st b) (sums (st.1 121) b 512)))
    have hfin := wq_no (c := (ckC st b)) (v := (sums (st.1 121) b 512)) (by omega) ho hFo hPO
    refine g_astore_n (L' := [aR (g 533), aI b, aR o, aR x]) rfl rfl ?_
    refine g_iconst (n := 1) rfl (by decide) ?_
    exact r_i rfl rfl hc.symm hfin
  · exact absurd hc (by omega)
  · exact absurd hc (by omega)
theorem w_size (hd8 : 8 ≤ d) (hW : WC (V, h.1, N, mk) h g st cb sb) (ht : t < 2) (ht0 : st.2.2.2.2.2 0 = (t : Int)) (n : Int) : Cal d yLw_size [aR (g 533), aI n] h (RV (some (aI (szC n))) (WQ0 V N mk g cb sb h (fun s => SE (if szC n = 0 then uR st 121 (rsz (st.1 121) n) else st) s t))) := by
  show Go _ _ 0 [aR (g 533), aI n, none] [] _ _
  refine g_aload_n rfl rfl ?_
  refine g_iload_n rfl rfl ?_
  refine g_VO (z := yTY_size) (e := 1) (A := [aI n]) (rest := []) rfl rfl rfl rfl rfl rfl (by omega) (hW.ty ht0 ht) hW.tyb (c_size (by omega) hW ht ht0 n) (fun o' h2 hq => ?_)
  obtain ⟨hcase, hPO⟩ := hq
  have hcr : (szC n) = 0 ∨ (szC n) = 1 := by
    unfold szC
    exact pk3
  rcases hcase with ⟨hc, rfl⟩ | ⟨hc, x, rfl⟩ | ⟨hc, x, rfl⟩ | ⟨hc, x, rfl⟩
  · show Go d yLw_size 5 [aR (g 533), aI n, none] [] h2 (RV (some (aI (szC n))) (WQ0 V N mk g cb sb h (fun s => SE (if szC n = 0 then uR st 121 (rsz (st.1 121) n) else st) s t)))
    have hfin := wq_0 hPO
    refine g_goto rfl rfl ?_
    refine g_iconst (n := 0) rfl (by decide) ?_
    have hv : (0 : Int) = (szC n) := hc.symm
    exact r_i rfl rfl hv hfin
  · show Go d yLw_size 8 [aR (g 533), aI n, none] [aR x] h2 (RV (some (aI (szC n))) (WQ0 V N mk g cb sb h (fun s => SE (if szC n = 0 then uR st 121 (rsz (st.1 121) n) else st) s t)))
    have hfin := wq_0 hPO
    refine g_astore_n (L' := [aR (g 533), aI n, aR x]) rfl rfl ?_
    refine g_iconst (n := 1) rfl (by decide) ?_
    exact r_i rfl rfl hc.symm hfin
  · exact absurd hc (by omega)
  · exact absurd hc (by omega)
theorem w_node (hd8 : 8 ≤ d) (hW : WC (V, h.1, N, mk) h g st cb sb) (ht : t < 2) (ht0 : st.2.2.2.2.2 0 = (t : Int)) (ho : V o) (hN : N ≤ o) (hFo : h.1 o = some (eA 2 1 F)) (node what : Int) : Cal d yLw_node [aR (g 533), aI node, aI what, aR o] h (RV (some (aI (ndC st t node what))) (WQ V N mk o g cb sb h (fun s => SE (if ndC st t node what = 0 then st else st) s t) (ndC st t node what) (ndV st t node.toNat what))) := by
  show Go _ _ 0 [aR (g 533), aI node, aI what, aR o, none] [] _ _
  refine g_aload_n rfl rfl ?_
  refine g_iconst (n := 0) rfl (by decide) ?_
  refine g_aload_n rfl rfl ?_
  refine g_iload_n rfl rfl ?_
  refine g_iload_n rfl rfl ?_
  refine g_VO (z := yTY_node) (e := 1) (A := [aI what, aI node]) (rest := [aI 0, aR o]) rfl rfl rfl rfl rfl rfl (by omega) (hW.ty ht0 ht) hW.tyb (c_node (by omega) hW ht ht0 node what) (fun o' h2 hq => ?_)
  obtain ⟨hcase, hPO⟩ := hq
  have hcr : (ndC st t node what) = 0 ∨ (ndC st t node what) = 1 := by
    unfold ndC
    exact pk3
  rcases hcase with ⟨hc, rfl⟩ | ⟨hc, x, rfl⟩ | ⟨hc, x, rfl⟩ | ⟨hc, x, rfl⟩
  · show Go d yLw_node 8 [aR (g 533), aI node, aI what, aR o, none] [aI ((ndV st t node.toNat what)), aI 0, aR o] h2 (RV (some (aI (ndC st t node what))) (WQ V N mk o g cb sb h (fun s => SE (if ndC st t node what = 0 then st else st) s t) (ndC st t node what) (ndV st t node.toNat what)))
    have hFo2 := wq_o ho hFo hPO
    have hNo2 := wq_b hN hPO
    have hfin := wq_ok (c := (ndC st t node what)) (v := (ndV st t node.toNat what)) ho hFo hPO
    refine g_i2l rfl ?_
    refine g_last rfl hFo2 hNo2 (by omega) ?_
    generalize hg_hh1 : hput h2 o (eA 2 1 (va_up F (0 : Int).toNat ((ndV st t node.toNat what)))) = hh1
    rw [hg_hh1] at hfin
    refine g_goto rfl rfl ?_
    refine g_iconst (n := 0) rfl (by decide) ?_
    have hv : (0 : Int) = (ndC st t node what) := hc.symm
    exact r_i rfl rfl hv hfin
  · show Go d yLw_node 13 [aR (g 533), aI node, aI what, aR o, none] [aR x] h2 (RV (some (aI (ndC st t node what))) (WQ V N mk o g cb sb h (fun s => SE (if ndC st t node what = 0 then st else st) s t) (ndC st t node what) (ndV st t node.toNat what)))
    have hfin := wq_no (c := (ndC st t node what)) (v := (ndV st t node.toNat what)) (by omega) ho hFo hPO
    refine g_astore (L' := [aR (g 533), aI node, aI what, aR o, aR x]) rfl rfl ?_
    refine g_iconst (n := 1) rfl (by decide) ?_
    exact r_i rfl rfl hc.symm hfin
  · exact absurd hc (by omega)
  · exact absurd hc (by omega)
theorem w_part (hd8 : 8 ≤ d) (hW : WC (V, h.1, N, mk) h g st cb sb) (ht : t < 2) (ht0 : st.2.2.2.2.2 0 = (t : Int)) (ho : V o) (hN : N ≤ o) (hFo : h.1 o = some (eA 2 1 F)) (node what j : Int) : Cal d yLw_part [aR (g 533), aI node, aI what, aI j, aR o] h (RV (some (aI (paC st t node what))) (WQ V N mk o g cb sb h (fun s => SE (if paC st t node what = 0 then st else st) s t) (paC st t node what) (paV st t node.toNat what j))) := by
  show Go _ _ 0 [aR (g 533), aI node, aI what, aI j, aR o, none] [] _ _
  refine g_aload rfl rfl ?_
  refine g_iconst (n := 0) rfl (by decide) ?_
  refine g_aload_n rfl rfl ?_
  refine g_iload_n rfl rfl ?_
  refine g_iload_n rfl rfl ?_
  refine g_iload_n rfl rfl ?_
  refine g_VO (z := yTY_part) (e := 1) (A := [aI j, aI what, aI node]) (rest := [aI 0, aR o]) rfl rfl rfl rfl rfl rfl (by omega) (hW.ty ht0 ht) hW.tyb (c_part (by omega) hW ht ht0 node what j) (fun o' h2 hq => ?_)
  obtain ⟨hcase, hPO⟩ := hq
  have hcr : (paC st t node what) = 0 ∨ (paC st t node what) = 1 := by
    unfold paC
    exact pk3
  rcases hcase with ⟨hc, rfl⟩ | ⟨hc, x, rfl⟩ | ⟨hc, x, rfl⟩ | ⟨hc, x, rfl⟩
  · show Go d yLw_part 10 [aR (g 533), aI node, aI what, aI j, aR o, none] [aI ((paV st t node.toNat what j)), aI 0, aR o] h2 (RV (some (aI (paC st t node what))) (WQ V N mk o g cb sb h (fun s => SE (if paC st t node what = 0 then st else st) s t) (paC st t node what) (paV st t node.toNat what j)))
    have hFo2 := wq_o ho hFo hPO
    have hNo2 := wq_b hN hPO
    have hfin := wq_ok (c := (paC st t node what)) (v := (paV st t node.toNat what j)) ho hFo hPO
    refine g_i2l rfl ?_
    refine g_last rfl hFo2 hNo2 (by omega) ?_
    generalize hg_hh1 : hput h2 o (eA 2 1 (va_up F (0 : Int).toNat ((paV st t node.toNat what j)))) = hh1
    rw [hg_hh1] at hfin
    refine g_goto rfl rfl ?_
    refine g_iconst (n := 0) rfl (by decide) ?_
    have hv : (0 : Int) = (paC st t node what) := hc.symm
    exact r_i rfl rfl hv hfin
  · show Go d yLw_part 15 [aR (g 533), aI node, aI what, aI j, aR o, none] [aR x] h2 (RV (some (aI (paC st t node what))) (WQ V N mk o g cb sb h (fun s => SE (if paC st t node what = 0 then st else st) s t) (paC st t node what) (paV st t node.toNat what j)))
    have hfin := wq_no (c := (paC st t node what)) (v := (paV st t node.toNat what j)) (by omega) ho hFo hPO
    refine g_astore (L' := [aR (g 533), aI node, aI what, aI j, aR o, aR x]) rfl rfl ?_
    refine g_iconst (n := 1) rfl (by decide) ?_
    exact r_i rfl rfl hc.symm hfin
  · exact absurd hc (by omega)
  · exact absurd hc (by omega)
theorem w_total (hd8 : 8 ≤ d) (hW : WC (V, h.1, N, mk) h g st cb sb) (ht : t < 2) (ht0 : st.2.2.2.2.2 0 = (t : Int)) (ho : V o) (hN : N ≤ o) (hFo : h.1 o = some (eA 2 1 F)) (what : Int) : Cal d yLw_total [aR (g 533), aI what, aR o] h (RV (some (aI (toC what))) (WQ V N mk o g cb sb h (fun s => SE (if toC what = 0 then st else st) s t) (toC what) (toV st t what))) := by
  show Go _ _ 0 [aR (g 533), aI what, aR o, none] [] _ _
  refine g_aload_n rfl rfl ?_
  refine g_iconst (n := 0) rfl (by decide) ?_
  refine g_aload_n rfl rfl ?_
  refine g_iload_n rfl rfl ?_
  refine g_VO (z := yTY_total) (e := 1) (A := [aI what]) (rest := [aI 0, aR o]) rfl rfl rfl rfl rfl rfl (by omega) (hW.ty ht0 ht) hW.tyb (c_total (by omega) hW ht ht0 what) (fun o' h2 hq => ?_)
  obtain ⟨hcase, hPO⟩ := hq
  have hcr : (toC what) = 0 ∨ (toC what) = 1 := by
    unfold toC
    exact pk3
  rcases hcase with ⟨hc, rfl⟩ | ⟨hc, x, rfl⟩ | ⟨hc, x, rfl⟩ | ⟨hc, x, rfl⟩
  · show Go d yLw_total 7 [aR (g 533), aI what, aR o, none] [aI ((toV st t what)), aI 0, aR o] h2 (RV (some (aI (toC what))) (WQ V N mk o g cb sb h (fun s => SE (if toC what = 0 then st else st) s t) (toC what) (toV st t what)))
    have hFo2 := wq_o ho hFo hPO
    have hNo2 := wq_b hN hPO
    have hfin := wq_ok (c := (toC what)) (v := (toV st t what)) ho hFo hPO
    refine g_i2l rfl ?_
    refine g_last rfl hFo2 hNo2 (by omega) ?_
    generalize hg_hh1 : hput h2 o (eA 2 1 (va_up F (0 : Int).toNat ((toV st t what)))) = hh1
    rw [hg_hh1] at hfin
    refine g_goto rfl rfl ?_
    refine g_iconst (n := 0) rfl (by decide) ?_
    have hv : (0 : Int) = (toC what) := hc.symm
    exact r_i rfl rfl hv hfin
  · show Go d yLw_total 12 [aR (g 533), aI what, aR o, none] [aR x] h2 (RV (some (aI (toC what))) (WQ V N mk o g cb sb h (fun s => SE (if toC what = 0 then st else st) s t) (toC what) (toV st t what)))
    have hfin := wq_no (c := (toC what)) (v := (toV st t what)) (by omega) ho hFo hPO
    refine g_astore_n (L' := [aR (g 533), aI what, aR o, aR x]) rfl rfl ?_
    refine g_iconst (n := 1) rfl (by decide) ?_
    exact r_i rfl rfl hc.symm hfin
  · exact absurd hc (by omega)
  · exact absurd hc (by omega)
end Lw1
