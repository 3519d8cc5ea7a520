/-! The law: the script, from its start to its end. -/
section Lw3
variable {b mk N L m0 o cb sb t : Nat} {xs : Nat → Int} {g : Nat → Nat} {h h2 h3 : AH} {st st1 : CS} {s s' : MS} {F : Nat → Int} {R : CS → Prop} {c v : Int} {Q : AO → AH → Prop} {K : KE}
theorem lw_one (hX : FX b mk N L xs m0 o) (ht : t < 2) (hL : LI b mk N L xs m0 o g t cb sb h st s) (i : Int) (hi0 : 0 ≤ i) (hi7 : i + 7 ≤ (L : Int)) (w5 w6 : AV) (kk : ∀ (h : AH) (st : CS) (s : MS) (t : Nat) (w5 w6 : AV), t < 2 → LI b mk N L xs m0 o g t (cb + 1) (sb + 6) h st s → Go 10 yLw_law 1129 [aR b, aR (g 533), aR m0, aR o, aI i, w5, w6] [] h Q) : Go 10 yLw_law 33 [aR b, aR (g 533), aR m0, aR o, aI i, w5, w6] [] h Q := by
  obtain ⟨F, hB, hM, hS, hT, hb⟩ := id hL
  obtain ⟨xx1, xx2, xx3, xx4, xx5, xx6, xx7⟩ := id hX
  refine g_aload_n rfl rfl ?_
  refine g_iload rfl rfl ?_
  refine g_iald rfl hB.2.2.1 (by omega) ?_
  refine g_bipush (n := 15) rfl (by decide) ?_
  refine g_iand (v := (xs (i).toNat) % 16) rfl (a_and15 _) ?_
  by_cases hk0 : (xs (i).toNat) % 16 = 0
  · skip
    refine g_tabIn (off := 80) (t := 120) rfl (by omega) (by rw [hk0]; rfl) rfl ?_
    exact lw_make hX ht hL i hi0 hi7 w5 w6 kk
  by_cases hk1 : (xs (i).toNat) % 16 = 1
  · skip
    refine g_tabIn (off := 218) (t := 258) rfl (by omega) (by rw [hk1]; rfl) rfl ?_
    exact lw_rename hX ht hL i hi0 hi7 w5 w6 kk
  by_cases hk2 : (xs (i).toNat) % 16 = 2
  · skip
    refine g_tabIn (off := 330) (t := 370) rfl (by omega) (by rw [hk2]; rfl) rfl ?_
    exact lw_fill hX ht hL i hi0 hi7 w5 w6 kk
  by_cases hk3 : (xs (i).toNat) % 16 = 3
  · skip
    refine g_tabIn (off := 442) (t := 482) rfl (by omega) (by rw [hk3]; rfl) rfl ?_
    exact lw_contents hX ht hL i hi0 hi7 w5 w6 kk
  by_cases hk4 : (xs (i).toNat) % 16 = 4
  · skip
    refine g_tabIn (off := 502) (t := 542) rfl (by omega) (by rw [hk4]; rfl) rfl ?_
    exact lw_set hX ht hL i hi0 hi7 w5 w6 kk
  by_cases hk5 : (xs (i).toNat) % 16 = 5
  · skip
    refine g_tabIn (off := 574) (t := 614) rfl (by omega) (by rw [hk5]; rfl) rfl ?_
    exact lw_remove hX ht hL i hi0 hi7 w5 w6 kk
  by_cases hk6 : (xs (i).toNat) % 16 = 6
  · skip
    refine g_tabIn (off := 630) (t := 670) rfl (by omega) (by rw [hk6]; rfl) rfl ?_
    exact lw_write hX ht hL i hi0 hi7 w5 w6 kk
  by_cases hk7 : (xs (i).toNat) % 16 = 7
  · skip
    refine g_tabIn (off := 674) (t := 714) rfl (by omega) (by rw [hk7]; rfl) rfl ?_
    exact lw_read hX ht hL i hi0 hi7 w5 w6 kk
  by_cases hk8 : (xs (i).toNat) % 16 = 8
  · skip
    refine g_tabIn (off := 687) (t := 727) rfl (by omega) (by rw [hk8]; rfl) rfl ?_
    exact lw_place hX ht hL i hi0 hi7 w5 w6 kk
  by_cases hk9 : (xs (i).toNat) % 16 = 9
  · skip
    refine g_tabIn (off := 700) (t := 740) rfl (by omega) (by rw [hk9]; rfl) rfl ?_
    exact lw_alter hX ht hL i hi0 hi7 w5 w6 kk
  by_cases hk10 : (xs (i).toNat) % 16 = 10
  · skip
    refine g_tabIn (off := 768) (t := 808) rfl (by omega) (by rw [hk10]; rfl) rfl ?_
    exact lw_check hX ht hL i hi0 hi7 w5 w6 kk
  by_cases hk11 : (xs (i).toNat) % 16 = 11
  · skip
    refine g_tabIn (off := 824) (t := 864) rfl (by omega) (by rw [hk11]; rfl) rfl ?_
    exact lw_size hX ht hL i hi0 hi7 w5 w6 kk
  by_cases hk12 : (xs (i).toNat) % 16 = 12
  · skip
    refine g_tabIn (off := 860) (t := 900) rfl (by omega) (by rw [hk12]; rfl) rfl ?_
    exact lw_hand hX ht hL i hi0 hi7 w5 w6 kk
  by_cases hk13 : (xs (i).toNat) % 16 = 13
  · skip
    refine g_tabIn (off := 885) (t := 925) rfl (by omega) (by rw [hk13]; rfl) rfl ?_
    exact lw_node hX ht hL i hi0 hi7 w5 w6 kk
  by_cases hk14 : (xs (i).toNat) % 16 = 14
  · skip
    refine g_tabIn (off := 953) (t := 993) rfl (by omega) (by rw [hk14]; rfl) rfl ?_
    exact lw_part hX ht hL i hi0 hi7 w5 w6 kk
  by_cases hk15 : (xs (i).toNat) % 16 = 15
  · skip
    refine g_tabIn (off := 1033) (t := 1073) rfl (by omega) (by rw [hk15]; rfl) rfl ?_
    exact lw_total hX ht hL i hi0 hi7 w5 w6 kk
  refine g_tabOut (t := 1129) rfl (by omega) rfl ?_
  exact absurd rfl (by omega : ¬ (0 : Nat) = 0)
theorem lw_loop (hX : FX b mk N L xs m0 o) : ∀ (q : Nat) (i : Int) (h : AH) (st : CS) (s : MS) (t cb sb : Nat) (w5 w6 : AV), t < 2 → LI b mk N L xs m0 o g t cb sb h st s → 0 ≤ i → i ≤ 4000 → (L : Int) - i ≤ 7 * (q : Int) + 6 → Go 10 yLw_law 23 [aR b, aR (g 533), aR m0, aR o, aI i, w5, w6] [] h (RV (some (aI 1)) (fun h2 => h2.2.1 ≤ cb + q ∧ h2.2.2.1 ≤ sb + 6 * q)) := by
  have xx7 := hX.2.2.2.2.2.2
  intro q
  induction q with
  | zero =>
    intro i h st s t cb sb w5 w6 ht hL hi0 hi4 hq
    obtain ⟨F, hB, hM, hS, hT, hb⟩ := id hL
    have hbn := hB.1.bnd
    refine g_iload rfl rfl ?_
    refine g_aload_n rfl rfl ?_
    refine g_alen rfl hB.2.2.1 (by omega) ?_
    refine g_bipush (n := 7) rfl (by decide) ?_
    refine g_isub rfl (by omega) ?_
    refine g_icmpgt rfl rfl (fun c1 => ?_) (fun c => absurd c (by omega))
    refine g_iconst (n := 1) rfl (by decide) ?_
    exact r_z rfl rfl (by decide) rfl ⟨by omega, by omega⟩
  | succ q ih =>
    intro i h st s t cb sb w5 w6 ht hL hi0 hi4 hq
    obtain ⟨F, hB, hM, hS, hT, hb⟩ := id hL
    have hbn := hB.1.bnd
    refine g_iload rfl rfl ?_
    refine g_aload_n rfl rfl ?_
    refine g_alen rfl hB.2.2.1 (by omega) ?_
    refine g_bipush (n := 7) rfl (by decide) ?_
    refine g_isub rfl (by omega) ?_
    refine g_icmpgt rfl rfl (fun c1 => ?_) (fun c1 => ?_)
    · skip
      refine g_iconst (n := 1) rfl (by decide) ?_
      exact r_z rfl rfl (by decide) rfl ⟨by omega, by omega⟩
    · skip
      refine lw_one hX ht hL i hi0 (by omega) w5 w6 (fun h st s t w5 w6 ht hL => ?_)
      refine g_iinc (L' := [aR b, aR (g 533), aR m0, aR o, aI (i + 7), w5, w6]) rfl rfl (by omega) rfl ?_
      refine g_goto rfl rfl ?_
      exact (ih (i + 7) h st s t (cb + 1) (sb + 6) w5 w6 ht hL (by omega) (by omega) (by omega)).mono fun o h2 hh => ⟨hh.1, by have := hh.2.1; omega, by have := hh.2.2; omega⟩
/-- the surroundings are more, the heap has grown -/
theorem WC.ext (hW : WC K h g st cb sb) {V' : Nat → Prop} {cb' sb' : Nat} (hV : ∀ a, V' a → a < h2.2.1 ∧ (K.1 a ∨ h.2.1 ≤ a)) (hold : ∀ a, a < h.2.1 → h2.1 a = h.1 a) (e : h2.2.2.2 = h.2.2.2) (hle : h.2.1 ≤ h2.2.1) (hc : h2.2.1 + cb ≤ h.2.1 + cb') (hs : h2.2.2.1 + sb ≤ h.2.2.1 + sb') : WC (V', h2.1, K.2.2) h2 g st cb' sb' := by
  obtain ⟨hd, w1, w2, w3, w4, w5, w6, w7, w8⟩ := hW
  refine ⟨hd, fun c hc => ?_, w2, w3, w4, by rw [e]; exact w5, fun a ha => ⟨rfl, (hV a ha).1⟩, by omega, by omega⟩
  obtain ⟨a1, a2, a3, a4⟩ := w1 c hc
  exact ⟨by rw [hold _ a3]; exact a1, a2, by omega, fun q => (hV _ q).2.elim a4 (fun z => by omega)⟩
theorem st0_one : ONE st0 0 := ⟨rfl, rfl, rfl, rfl, rfl, rfl, rfl, rfl, rfl⟩
theorem law_go {h0 : AH} (hb : b < N) (hm : mk < N) (hne : b ≠ mk) (hL : L ≤ 3584) (hx : ∀ j, r32 (xs j)) (e0 : h0.2 = (N, 0, N, mk)) (eb : h0.1 b = some (eA 0 L xs)) (em : h0.1 mk = some (eA 1 8 mkf)) : Go 10 yLw_law 0 [aR b, none, none, none, none, none, none] [] h0 (RV (some (aI 1)) (fun h' => h'.2.1 ≤ N + 601024 ∧ h'.2.2.1 ≤ 7293034)) := by
  have e1 : h0.2.1 = N := by rw [e0]
  have hbb : h0.2.2.2.1 ≤ h0.2.1 := by rw [e0]; exact Nat.le_refl _
  refine g_new (ci := 7) rfl rfl rfl ?_
  refine g_dup rfl rfl ?_
  refine g_I (z := yTY_init) (e := 1) (A := []) (rest := [aR h0.2.1])  rfl rfl rfl rfl rfl rfl (by omega) (c_tyNew (by omega) hbb) ?_
  intro h1 hq
  have hW0 := ty_world (h := h0) (K := (fun a => a = b ∨ a = mk, h0.1, N, mk)) (by rw [e0]) hbb (fun a ha => ⟨rfl, by rcases ha with q | q <;> omega⟩)
  rw [← hq] at hW0
  have f1 : h1.2.1 = N + 320 := by
    rw [hq]
    show (X6 h0).2.1 = _
    rw [X6_2, e1]
  have e0a : h0.2.2.1 = 0 := by rw [e0]
  have e0b : h0.2.2.2 = (N, mk) := by rw [e0]
  have f2a : h1.2.2.1 = 2881 := by
    rw [hq]
    show (X6 h0).2.2.1 = _
    rw [(X6_k h0).2, e0a]
  have f2b : h1.2.2.2 = (N, mk) := by
    rw [hq]
    show (X6 h0).2.2.2 = _
    rw [(X6_k h0).1, e0b]
  have hb1 : h1.2.2.2.1 ≤ h1.2.1 := by
    rw [f2b, f1]
    show N ≤ N + 320
    omega
  clear hq
  refine g_astore_n (L' := [aR b, aR h0.2.1, none, none, none, none, none]) rfl rfl ?_
  refine g_new (ci := 8) rfl rfl rfl ?_
  refine g_dup rfl rfl ?_
  refine g_I (z := yMd_init) (e := 1) (A := []) (rest := [aR h1.2.1])  rfl rfl rfl rfl rfl rfl (by omega) (m_init (by omega) hb1) ?_
  intro h2 hq
  obtain ⟨g2, gold, s, hWM, hM, hON, hpg, h11, h14⟩ := hq
  have f3 : h2.2.1 = N + 341 := by rw [g2, f1]
  have f4a : h2.2.2.1 = 143112 := by
    rw [g2]
    show h1.2.2.1 + 140231 = _
    rw [f2a]
  have f4b : h2.2.2.2 = (N, mk) := by
    rw [g2]
    exact f2b
  refine g_astore_n (L' := [aR b, aR h0.2.1, aR h1.2.1, none, none, none, none]) rfl rfl ?_
  refine g_iconst (n := 1) rfl (by decide) ?_
  refine g_newa (kd := 2) rfl rfl (by decide) ?_
  generalize hg_hh1 : hnew h2 (eA 2 (1 : Int).toNat (fun _ => 0)) (1 : Int).toNat = hh1
  have k1 : hh1.2.1 = N + 342 := by
    rw [← hg_hh1]
    show h2.2.1 + 1 = _
    rw [f3]
  have k2a : hh1.2.2.1 = 143113 := by
    rw [← hg_hh1]
    show h2.2.2.1 + 1 = _
    rw [f4a]
  have k2b : hh1.2.2.2 = (N, mk) := by
    rw [← hg_hh1]
    exact f4b
  have kold : ∀ a, a < h2.2.1 → hh1.1 a = h2.1 a := fun a ha => by
    rw [← hg_hh1]
    show hup h2.1 h2.2.1 _ a = _
    unfold hup
    rw [if_neg (by omega)]
  have knew : hh1.1 h2.2.1 = some (eA 2 1 (fun _ => 0)) := by
    rw [← hg_hh1]
    show hup h2.1 h2.2.1 _ h2.2.1 = _
    unfold hup
    rw [if_pos rfl]
    rfl
  have hX : FX b mk N L xs (h1.2.1) (h2.2.1) := ⟨hb, hm, by omega, by omega, hne, hx, hL⟩
  have hold1 : ∀ a, a < h1.2.1 → hh1.1 a = h1.1 a := fun a ha => (kold a (by omega)).trans (gold a ha)
  have hWC : WC (VV b mk h1.2.1 h2.2.1, hh1.1, N, mk) hh1 (fun c => N + ofC c) st0 (N + 717) 1695113 := by
    have z := hW0.ext (h2 := hh1) (V' := VV b mk h1.2.1 h2.2.1) (cb' := N + 717) (sb' := 1695113) (fun a ha => ?_) hold1 (by rw [k2b, f2b]) (by omega) (by omega) (by omega)
    · rw [e1] at z
      exact z
    · rcases ha with q | q | q | q
      · exact ⟨by omega, Or.inl (Or.inl q)⟩
      · exact ⟨by omega, Or.inl (Or.inr q)⟩
      · exact ⟨by omega, Or.inr (by omega)⟩
      · exact ⟨by omega, Or.inr q.1⟩
  have hob : hh1.1 b = some (eA 0 L xs) := by
    rw [hold1 b (by omega), (hW0.vk (Or.inl rfl)).1]
    exact eb
  have hom : hh1.1 mk = some (eA 1 8 mkf) := by
    rw [hold1 mk (by omega), (hW0.vk (Or.inr rfl)).1]
    exact em
  have hLI : LI b mk N L xs h1.2.1 h2.2.1 (fun c => N + ofC c) 0 (N + 717) 1695113 hh1 st0 s := by
    refine ⟨_, ⟨hWC, hWM.cp (by rw [k2b, f4b]) (fun a a1 a2 => kold a (by omega)), hob, hom, knew⟩, hM, ⟨st0_one.vq hON, ?_, ?_, ?_⟩, st0_ti, h11⟩
    · exact hpg
    · show s.2 11 / 30 = 0
      rw [h11]
      rfl
    · exact h14
  refine g_astore_n (L' := [aR b, aR h0.2.1, aR h1.2.1, aR h2.2.1, none, none, none]) rfl rfl ?_
  refine g_iconst (n := 0) rfl (by decide) ?_
  refine g_istore (L' := [aR b, aR h0.2.1, aR h1.2.1, aR h2.2.1, aI 0, none, none]) rfl rfl ?_
  have e533 : (fun c => N + ofC c) 533 = N := rfl
  rw [show h0.2.1 = (fun c => N + ofC c) 533 from e1]
  exact (lw_loop hX 512 0 _ st0 s 0 _ _ none none (by omega) hLI (by omega) (by omega) (by omega)).mono fun o h9 hh => ⟨hh.1, by have := hh.2.1; omega, by have := hh.2.2; omega⟩
end Lw3
