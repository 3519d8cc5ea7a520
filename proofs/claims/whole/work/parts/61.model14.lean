/-! The reference: its smaller calls. -/
section Md14
variable {B h : AH} {m0 d t : Nat} {s s' : MS} {P W C : Nat → Int} {n : Int} {l : List Int} {c : Int}
theorem se_page (ht : t < 2) (hM : MOK s) (h1 : ∀ k, 1 ≤ k → k ≤ 11 → s'.1 k = s.1 k) (h11 : s'.2 11 = s.2 11) (h14 : s'.2 14 = s.2 14) (hl : pg s' = l) : SE (uR (mst s) 121 l) (mst s') t := by
  have hcn := hM.2.1 t ht
  have v := mst_vq ht hM h1
  refine ⟨⟨v.1, fun i hi => ?_⟩, by rw [uR_get]; exact hl, by show s'.2 11 / 30 = s.2 11 / 30; rw [h11], h14⟩
  have q9 := v.2 i hi
  have q8 : i < (s.1 9 t).toNat := hi
  refine ⟨q9.1, ?_, ?_⟩
  · rw [q9.2.1]
    exact (uR_ne _ _ (by show 2 * (30 * t + i) ≠ 121; omega)).symm
  · rw [q9.2.2]
    exact (uR_ne _ _ (by show 2 * (30 * t + i) + 1 ≠ 121; omega)).symm
theorem mp_page (ht : t < 2) (hb : s.2 11 = 30 * (t : Int)) (hM : MOK s) (hW : WM B m0 h s') (h1 : ∀ k, 1 ≤ k → k ≤ 11 → s'.1 k = s.1 k) (h11 : s'.2 11 = s.2 11) (h14 : s'.2 14 = s.2 14) (h13 : 0 ≤ s'.2 13 ∧ s'.2 13 ≤ 10240) (h26 : s'.2 26 = c) (hl : pg s' = l) : MP B m0 (uR (mst s) 121 l) t c h := by
  refine ⟨s', hW, ?_, se_page ht hM h1 h11 h14 hl, h11.trans hb, h26⟩
  refine ⟨?_, ?_, by rw [h11]; exact hM.2.2.1, h13⟩
  · rw [h1 3 (by omega) (by omega), h1 7 (by omega) (by omega)]
    exact hM.1
  · rw [h1 9 (by omega) (by omega)]
    exact hM.2.1
theorem mp_same (ht : t < 2) (hb : s.2 11 = 30 * (t : Int)) (hM : MOK s) (hW : WM B m0 h s') (h1 : ∀ k, 1 ≤ k → k ≤ 12 → s'.1 k = s.1 k) (h11 : s'.2 11 = s.2 11) (h14 : s'.2 14 = s.2 14) (h13 : s'.2 13 = s.2 13) (h26 : s'.2 26 = c) : MP B m0 (mst s) t c h := by
  have hp : pg s' = pg s := by
    unfold pg
    rw [h13, h1 12 (by omega) (by omega)]
  have k := mp_page ht hb hM hW (fun k a b => h1 k a (by omega)) h11 h14 (by rw [h13]; exact hM.2.2.2) h26 hp
  rw [show uR (mst s) 121 (pg s) = mst s from uR_self (mst s) 121] at k
  exact k
theorem xF_k (s : MS) (P W C : Nat → Int) (n : Int) {k : Nat} (hk : k ≤ 11) : (xF s P W n C).1 k = s.1 k := by
  show (if k = 12 then P else if k = 13 then W else if k = 14 then C else s.1 k) = s.1 k
  rw [if_neg (by omega), if_neg (by omega), if_neg (by omega)]
/-- it throws, or not: what is known then -/
theorem m_f (hM : MOK s) (hW : WM B m0 h s) (c : Int) (hc : c = 0 ∨ c = 1) : Cal d yMd_fails [aR m0, aI c, aI 1] h (RV (some (aI c)) (fun h2 => ∃ s1, WM B m0 h2 (xF s1 (s.1 12) (s.1 13) (s.2 16) (s.1 14)) ∧ s1.1 = s.1 ∧ (∀ k, k ≠ 26 → s1.2 k = s.2 k) ∧ s1.2 26 = c ∧ MOK s1 ∧ mst s1 = mst s)) := by
  have k := xF_f (d := d) (s := s) (P := s.1 12) (W := s.1 13) (n := s.2 16) (C := s.1 14) (by rw [xF_self]; exact hW) c hc
  refine k.mono fun o h2 hh => ⟨hh.1, uI s 26 c, hh.2, rfl, fun k hk => ?_, ?_, hM, rfl⟩
  · show va_up s.2 26 c k = s.2 k
    unfold va_up
    rw [if_neg hk]
  · rfl
theorem m_place (ht : t < 2) (hb : s.2 11 = 30 * (t : Int)) (hM : MOK s) (hW : WM B m0 h s) : Cal d yMd_place [aR m0] h (RV (some (aI (s.2 14))) (MP B m0 (mst s) t 0)) := by
  show Go _ _ 0 [aR m0] [] _ _
  refine g_aload_n rfl rfl ?_
  refine g_iconst (n := 0) rfl (by decide) ?_
  refine g_put (ci := 8) (kk := 26) (fs' := [aR (m0 + 1), aR (m0 + 2), aR (m0 + 3), aR (m0 + 4), aR (m0 + 5), aR (m0 + 6), aR (m0 + 7), aR (m0 + 8), aR (m0 + 9), aR (m0 + 10), aR (m0 + 11), aI (s.2 11), aR (m0 + 12), aI (s.2 13), aI (s.2 14), aR (m0 + 13), aI (s.2 16), aI (s.2 17), aI (s.2 18), aR (m0 + 14), aR (m0 + 15), aR (m0 + 16), aR (m0 + 17), aR (m0 + 18), aR (m0 + 19), aR (m0 + 20), aI 0]) rfl rfl hW.ob hW.b0 (Nat.le_of_ble_eq_true rfl) rfl (by decide) rfl ?_
  generalize hg_hh1 : hput h m0 (eO 8 [aR (m0 + 1), aR (m0 + 2), aR (m0 + 3), aR (m0 + 4), aR (m0 + 5), aR (m0 + 6), aR (m0 + 7), aR (m0 + 8), aR (m0 + 9), aR (m0 + 10), aR (m0 + 11), aI (s.2 11), aR (m0 + 12), aI (s.2 13), aI (s.2 14), aR (m0 + 13), aI (s.2 16), aI (s.2 17), aI (s.2 18), aR (m0 + 14), aR (m0 + 15), aR (m0 + 16), aR (m0 + 17), aR (m0 + 18), aR (m0 + 19), aR (m0 + 20), aI 0]) = hh1
  have hW : WM B m0 hh1 (uI s 26 0) := by
    rw [← hg_hh1]
    exact hW.setI rfl
  refine g_aload_n rfl rfl ?_
  refine g_get (ci := 8) (kk := 14) rfl rfl (show _ = some (eO 8 [aR (m0 + 1), aR (m0 + 2), aR (m0 + 3), aR (m0 + 4), aR (m0 + 5), aR (m0 + 6), aR (m0 + 7), aR (m0 + 8), aR (m0 + 9), aR (m0 + 10), aR (m0 + 11), aI (s.2 11), aR (m0 + 12), aI (s.2 13), aI (s.2 14), aR (m0 + 13), aI (s.2 16), aI (s.2 17), aI (s.2 18), aR (m0 + 14), aR (m0 + 15), aR (m0 + 16), aR (m0 + 17), aR (m0 + 18), aR (m0 + 19), aR (m0 + 20), aI 0]) from hW.ob) hW.b0 rfl ?_
  exact r_i rfl rfl rfl (mp_same ht hb hM hW (fun _ _ _ => rfl) rfl rfl rfl rfl)
theorem m_hand (ht : t < 2) (hb : s.2 11 = 30 * (t : Int)) (hM : MOK s) (hW : WM B m0 h s) (i : Int) : Cal d yMd_hand [aR m0, aI i] h (RV (some (aI (rat (pg s) i))) (MP B m0 (mst s) t 0)) := by
  have hmm := hM.2.2.2
  have hl := pg_len s
  show Go _ _ 0 [aR m0, aI i] [] _ _
  refine g_aload_n rfl rfl ?_
  refine g_iconst (n := 0) rfl (by decide) ?_
  refine g_put (ci := 8) (kk := 26) (fs' := [aR (m0 + 1), aR (m0 + 2), aR (m0 + 3), aR (m0 + 4), aR (m0 + 5), aR (m0 + 6), aR (m0 + 7), aR (m0 + 8), aR (m0 + 9), aR (m0 + 10), aR (m0 + 11), aI (s.2 11), aR (m0 + 12), aI (s.2 13), aI (s.2 14), aR (m0 + 13), aI (s.2 16), aI (s.2 17), aI (s.2 18), aR (m0 + 14), aR (m0 + 15), aR (m0 + 16), aR (m0 + 17), aR (m0 + 18), aR (m0 + 19), aR (m0 + 20), aI 0]) rfl rfl hW.ob hW.b0 (Nat.le_of_ble_eq_true rfl) rfl (by decide) rfl ?_
  generalize hg_hh1 : hput h m0 (eO 8 [aR (m0 + 1), aR (m0 + 2), aR (m0 + 3), aR (m0 + 4), aR (m0 + 5), aR (m0 + 6), aR (m0 + 7), aR (m0 + 8), aR (m0 + 9), aR (m0 + 10), aR (m0 + 11), aI (s.2 11), aR (m0 + 12), aI (s.2 13), aI (s.2 14), aR (m0 + 13), aI (s.2 16), aI (s.2 17), aI (s.2 18), aR (m0 + 14), aR (m0 + 15), aR (m0 + 16), aR (m0 + 17), aR (m0 + 18), aR (m0 + 19), aR (m0 + 20), aI 0]) = hh1
  have hW : WM B m0 hh1 (uI s 26 0) := by
    rw [← hg_hh1]
    exact hW.setI rfl
  refine g_iload_n rfl rfl ?_
  refine g_iflt rfl rfl (fun c2 => ?_) (fun c2 => ?_)
  · skip
    refine g_iconst (n := -1) rfl (by decide) ?_
    exact r_i rfl rfl (rat_out (by omega)).symm (mp_same ht hb hM hW (fun _ _ _ => rfl) rfl rfl rfl rfl)
  · skip
    refine g_iload_n rfl rfl ?_
    refine g_aload_n rfl rfl ?_
    refine g_get (ci := 8) (kk := 13) rfl rfl (show _ = some (eO 8 [aR (m0 + 1), aR (m0 + 2), aR (m0 + 3), aR (m0 + 4), aR (m0 + 5), aR (m0 + 6), aR (m0 + 7), aR (m0 + 8), aR (m0 + 9), aR (m0 + 10), aR (m0 + 11), aI (s.2 11), aR (m0 + 12), aI (s.2 13), aI (s.2 14), aR (m0 + 13), aI (s.2 16), aI (s.2 17), aI (s.2 18), aR (m0 + 14), aR (m0 + 15), aR (m0 + 16), aR (m0 + 17), aR (m0 + 18), aR (m0 + 19), aR (m0 + 20), aI 0]) from hW.ob) hW.b0 rfl ?_
    refine g_icmpge rfl rfl (fun c3 => ?_) (fun c3 => ?_)
    · skip
      refine g_iconst (n := -1) rfl (by decide) ?_
      exact r_i rfl rfl (rat_out (by omega)).symm (mp_same ht hb hM hW (fun _ _ _ => rfl) rfl rfl rfl rfl)
    · skip
      refine g_aload_n rfl rfl ?_
      refine g_get (ci := 8) (kk := 12) rfl rfl (show _ = some (eO 8 [aR (m0 + 1), aR (m0 + 2), aR (m0 + 3), aR (m0 + 4), aR (m0 + 5), aR (m0 + 6), aR (m0 + 7), aR (m0 + 8), aR (m0 + 9), aR (m0 + 10), aR (m0 + 11), aI (s.2 11), aR (m0 + 12), aI (s.2 13), aI (s.2 14), aR (m0 + 13), aI (s.2 16), aI (s.2 17), aI (s.2 18), aR (m0 + 14), aR (m0 + 15), aR (m0 + 16), aR (m0 + 17), aR (m0 + 18), aR (m0 + 19), aR (m0 + 20), aI 0]) from hW.ob) hW.b0 rfl ?_
      refine g_iload_n rfl rfl ?_
      refine g_bald rfl (show _ = some (eA 1 10240 (s.1 12)) from hW.a12) (by omega) ?_
      refine g_sipush (n := 255) rfl (by decide) ?_
      refine g_iand (v := ((s.1 12) (i).toNat) % 256) rfl (a_and255 _) ?_
      refine g_goto rfl rfl ?_
      exact r_i rfl rfl (pg_rat s (by omega) (by omega)).symm (mp_same ht hb hM hW (fun _ _ _ => rfl) rfl rfl rfl rfl)
theorem m_alter (hd1 : 1 ≤ d) (ht : t < 2) (hb : s.2 11 = 30 * (t : Int)) (hM : MOK s) (hW : WM B m0 h s) (i b : Int) : Cal d yMd_alter [aR m0, aI i, aI b] h (RV (some (aI (pk ((0 ≤ i ∧ i < (pg s).length) ∧ 0 ≤ b ∧ b ≤ 255) (rat (pg s) i) 0))) (MP B m0 (pkS ((0 ≤ i ∧ i < (pg s).length) ∧ 0 ≤ b ∧ b ≤ 255) (uR (mst s) 121 (rput (pg s) i b)) (mst s)) t (pk ((0 ≤ i ∧ i < (pg s).length) ∧ 0 ≤ b ∧ b ≤ 255) 0 1))) := by
  have hmm := hM.2.2.2
  have hl := pg_len s
  show Go _ _ 0 [aR m0, aI i, aI b, none] [] _ _
  refine g_aload_n rfl rfl ?_
  refine g_iload_n rfl rfl ?_
  refine g_iconst (n := 0) rfl (by decide) ?_
  refine g_aload_n rfl rfl ?_
  refine g_get (ci := 8) (kk := 13) rfl rfl hW.ob hW.b0 rfl ?_
  refine g_iconst (n := 1) rfl (by decide) ?_
  refine g_isub rfl (by omega) ?_
  refine g_S (z := yMd_within) (e := 1) (A := [aI ((s.2 13) - 1), aI 0, aI i]) (rest := [aR m0]) (v := aI (pz (0 ≤ i ∧ i ≤ s.2 13 - 1))) (P := fun h2 => h2 = h) rfl rfl rfl rfl rfl rfl (by omega) (m_within _ _ _) ?_
  intro hh9 he9
  rw [he9]
  clear he9 hh9
  refine g_ifeq rfl rfl (fun c1 => ?_) (fun c1 => ?_)
  · skip
    have y1 := c1
    refine g_iconst (n := 1) rfl (by decide) ?_
    refine g_goto rfl rfl ?_
    refine g_iconst (n := 1) rfl (by decide) ?_
    have hno : ¬ ((0 ≤ i ∧ i < (pg s).length) ∧ 0 ≤ b ∧ b ≤ 255) := fun q => by first | exact pz_eq y2 ⟨by omega, by omega⟩ | exact pz_eq y1 ⟨by omega, by omega⟩
    refine g_V (z := yMd_fails) (e := 1) (A := [aI 1, aI 1]) (rest := []) (v := aI 1)  rfl rfl rfl rfl rfl rfl (by omega) hW.ob hW.b0 (m_f hM hW 1 (by omega)) ?_
    intro hh2 hq
    obtain ⟨s1, hW, r1, r2, r26, hM1, rm⟩ := hq
    have r13 := r2 13 (by decide)
    have r11 := r2 11 (by decide)
    have r14 := r2 14 (by decide)
    refine g_ifeq rfl rfl (fun c => absurd c (by decide)) (fun c => ?_)
    refine g_iconst (n := 0) rfl (by decide) ?_
    have hend : MP B m0 (mst s) t 1 hh2 := mp_same ht hb hM hW (fun k k1 k2 => by
      by_cases z : k = 12
      · subst z
        rfl
      · rw [xF_k _ _ _ _ _ (by omega), r1]) r11 r14 r13 r26
    exact r_i rfl rfl (pk_f hno).symm (by rw [pkS_f hno, pk_f hno]; exact hend)
  · skip
    have y1 := c1
    refine g_iload_n rfl rfl ?_
    refine g_iconst (n := 0) rfl (by decide) ?_
    refine g_sipush (n := 255) rfl (by decide) ?_
    refine g_S (z := yMd_within) (e := 1) (A := [aI 255, aI 0, aI b]) (rest := [aR m0]) (v := aI (pz (0 ≤ b ∧ b ≤ 255))) (P := fun h2 => h2 = h) rfl rfl rfl rfl rfl rfl (by omega) (m_within _ _ _) ?_
    intro hh9 he9
    rw [he9]
    clear he9 hh9
    refine g_ifne rfl rfl (fun c4 => ?_) (fun c4 => ?_)
    · skip
      have y2 := c4
      refine g_iconst (n := 0) rfl (by decide) ?_
      refine g_iconst (n := 1) rfl (by decide) ?_
      have hyes : ((0 ≤ i ∧ i < (pg s).length) ∧ 0 ≤ b ∧ b ≤ 255) := ⟨by have := pz_ne y1; omega, by have := pz_ne y2; omega⟩
      refine g_V (z := yMd_fails) (e := 1) (A := [aI 1, aI 0]) (rest := []) (v := aI 0)  rfl rfl rfl rfl rfl rfl (by omega) hW.ob hW.b0 (m_f hM hW 0 (by omega)) ?_
      intro hh5 hq
      obtain ⟨s1, hW, r1, r2, r26, hM1, rm⟩ := hq
      have r13 := r2 13 (by decide)
      have r11 := r2 11 (by decide)
      have r14 := r2 14 (by decide)
      refine g_ifeq rfl rfl (fun c => ?_) (fun c => absurd c (by decide))
      refine g_aload_n rfl rfl ?_
      refine g_get (ci := 8) (kk := 12) rfl rfl (xF_ob hW) hW.b0 rfl ?_
      refine g_iload_n rfl rfl ?_
      refine g_bald rfl (xF_a12 hW) (by omega) ?_
      refine g_sipush (n := 255) rfl (by decide) ?_
      refine g_iand (v := (((s.1 12)) (i).toNat) % 256) rfl (a_and255 _) ?_
      refine g_istore_n (L' := [aR m0, aI i, aI b, aI ((((s.1 12)) (i).toNat) % 256)]) rfl rfl ?_
      refine g_aload_n rfl rfl ?_
      refine g_get (ci := 8) (kk := 12) rfl rfl (xF_ob hW) hW.b0 rfl ?_
      refine g_iload_n rfl rfl ?_
      refine g_iload_n rfl rfl ?_
      refine g_i2b rfl ?_
      refine g_bast rfl (xF_a12 hW) hW.bk (by omega) ?_
      generalize hg_hh7 : hput hh5 (m0 + 12) (eA 1 10240 (va_up ((s.1 12)) (i).toNat (a8 (a8 b)))) = hh7
      have hW := xF_12 hW i.toNat (a8_r (a8 b))
      rw [hg_hh7, a8_of (a8_r b)] at hW
      refine g_iload_n rfl rfl ?_
      have hP0 : PL (s.1 12) (pg s) := fun j hj => (pg_get s (by omega)).symm
      have hpg := (hP0.put (b := b) hyes.1.1 hyes.1.2).pg (s := s1) (W := s.1 13) (n := s.2 16) (C := s.1 14) (by rw [rput_len, r13]; exact hl)
      exact r_i rfl rfl (by rw [pk_t hyes, pg_rat s (by omega) (by omega)]) (by rw [pkS_t hyes, pk_t hyes]; exact mp_page ht hb hM hW (fun k k1 k2 => by rw [xF_k _ _ _ _ _ k2, r1]) r11 r14 (by show 0 ≤ s1.2 13 ∧ s1.2 13 ≤ 10240; rw [r13]; exact hmm) r26 hpg)
    · skip
      have y2 := c4
      refine g_iconst (n := 1) rfl (by decide) ?_
      refine g_goto rfl rfl ?_
      refine g_iconst (n := 1) rfl (by decide) ?_
      have hno : ¬ ((0 ≤ i ∧ i < (pg s).length) ∧ 0 ≤ b ∧ b ≤ 255) := fun q => by first | exact pz_eq y2 ⟨by omega, by omega⟩ | exact pz_eq y1 ⟨by omega, by omega⟩
      refine g_V (z := yMd_fails) (e := 1) (A := [aI 1, aI 1]) (rest := []) (v := aI 1)  rfl rfl rfl rfl rfl rfl (by omega) hW.ob hW.b0 (m_f hM hW 1 (by omega)) ?_
      intro hh8 hq
      obtain ⟨s1, hW, r1, r2, r26, hM1, rm⟩ := hq
      have r13 := r2 13 (by decide)
      have r11 := r2 11 (by decide)
      have r14 := r2 14 (by decide)
      refine g_ifeq rfl rfl (fun c => absurd c (by decide)) (fun c => ?_)
      refine g_iconst (n := 0) rfl (by decide) ?_
      have hend : MP B m0 (mst s) t 1 hh8 := mp_same ht hb hM hW (fun k k1 k2 => by
        by_cases z : k = 12
        · subst z
          rfl
        · rw [xF_k _ _ _ _ _ (by omega), r1]) r11 r14 r13 r26
      exact r_i rfl rfl (pk_f hno).symm (by rw [pkS_f hno, pk_f hno]; exact hend)
theorem m_check (hd1 : 1 ≤ d) (ht : t < 2) (hb : s.2 11 = 30 * (t : Int)) (hM : MOK s) (hW : WM B m0 h s) (b : Int) : Cal d yMd_check [aR m0, aI b] h (RV (some (aI (pk (0 ≤ b ∧ b < ((pg s).length : Int) / 512) (sums (pg s) b 512) 0))) (MP B m0 (pkS (0 ≤ b ∧ b < ((pg s).length : Int) / 512) (uR (mst s) 121 (pchk (pg s) b)) (mst s)) t (pk (0 ≤ b ∧ b < ((pg s).length : Int) / 512) 0 1))) := by
  have hmm := hM.2.2.2
  have hl := pg_len s
  show Go _ _ 0 [aR m0, aI b, none] [] _ _
  refine g_aload_n rfl rfl ?_
  refine g_iload_n rfl rfl ?_
  refine g_iflt rfl rfl (fun c1 => ?_) (fun c1 => ?_)
  · skip
    have y1 := c1
    refine g_iconst (n := 1) rfl (by decide) ?_
    refine g_goto rfl rfl ?_
    refine g_iconst (n := 1) rfl (by decide) ?_
    have hno : ¬ (0 ≤ b ∧ b < ((pg s).length : Int) / 512) := fun q => by omega
    refine g_V (z := yMd_fails) (e := 1) (A := [aI 1, aI 1]) (rest := []) (v := aI 1)  rfl rfl rfl rfl rfl rfl (by omega) hW.ob hW.b0 (m_f hM hW 1 (by omega)) ?_
    intro hh2 hq
    obtain ⟨s1, hW, r1, r2, r26, hM1, rm⟩ := hq
    have r13 := r2 13 (by decide)
    have r11 := r2 11 (by decide)
    have r14 := r2 14 (by decide)
    refine g_ifeq rfl rfl (fun c => absurd c (by decide)) (fun c => ?_)
    refine g_iconst (n := 0) rfl (by decide) ?_
    have hend : MP B m0 (mst s) t 1 hh2 := mp_same ht hb hM hW (fun k k1 k2 => by
      by_cases z : k = 12
      · subst z
        rfl
      · rw [xF_k _ _ _ _ _ (by omega), r1]) r11 r14 r13 r26
    exact r_i rfl rfl (pk_f hno).symm (by rw [pkS_f hno, pk_f hno]; exact hend)
  · skip
    have y1 := c1
    refine g_iload_n rfl rfl ?_
    refine g_aload_n rfl rfl ?_
    refine g_get (ci := 8) (kk := 13) rfl rfl hW.ob hW.b0 rfl ?_
    refine g_sipush (n := 512) rfl (by decide) ?_
    refine g_idiv (v := (s.2 13) / 512) rfl (by decide) (a_div512 (by omega) (by omega)) ?_
    refine g_icmplt rfl rfl (fun c4 => ?_) (fun c4 => ?_)
    · skip
      have y2 := c4
      refine g_iconst (n := 0) rfl (by decide) ?_
      refine g_iconst (n := 1) rfl (by decide) ?_
      have hyes : (0 ≤ b ∧ b < ((pg s).length : Int) / 512) := ⟨by omega, by omega⟩
      refine g_V (z := yMd_fails) (e := 1) (A := [aI 1, aI 0]) (rest := []) (v := aI 0)  rfl rfl rfl rfl rfl rfl (by omega) hW.ob hW.b0 (m_f hM hW 0 (by omega)) ?_
      intro hh5 hq
      obtain ⟨s1, hW, r1, r2, r26, hM1, rm⟩ := hq
      have r13 := r2 13 (by decide)
      have r11 := r2 11 (by decide)
      have r14 := r2 14 (by decide)
      refine g_ifeq rfl rfl (fun c => ?_) (fun c => absurd c (by decide))
      refine g_aload_n rfl rfl ?_
      refine g_sipush (n := 512) rfl (by decide) ?_
      refine g_iload_n rfl rfl ?_
      refine g_imul rfl (by omega) ?_
      rw [show 512 * b = b * 512 by omega]
      have hP0 : PL (s.1 12) (pg s) := fun j hj => (pg_get s (by omega)).symm
      have hpg0 := hP0.pg (s := s1) (W := s.1 13) (n := s.2 16) (C := s.1 14) (by rw [r13]; exact hl)
      refine g_V (z := yMd_sum) (e := 1) (A := [aI (b * 512)]) (rest := []) (v := aI (sums (pg s) b 512)) (P := fun h2 => h2 = hh5) rfl rfl rfl rfl rfl rfl (by omega) (xF_ob hW) hW.b0 ((by have k9 := m_sum (d := d - 1) (s := xF s1 (s.1 12) (s.1 13) (s.2 16) (s.1 14)) hM1 hW b hyes.1 (show b * 512 + 512 ≤ s1.2 13 by omega); rw [hpg0] at k9; exact k9)) ?_
      intro hh9 he9
      rw [he9]
      clear he9 hh9
      refine g_istore_n (L' := [aR m0, aI b, aI (sums (pg s) b 512)]) rfl rfl ?_
      refine g_aload_n rfl rfl ?_
      refine g_sipush (n := 512) rfl (by decide) ?_
      refine g_iload_n rfl rfl ?_
      refine g_imul rfl (by omega) ?_
      refine g_sipush (n := 148) rfl (by decide) ?_
      refine g_iadd rfl (by omega) ?_
      refine g_bipush (n := 6) rfl (by decide) ?_
      refine g_iload_n rfl rfl ?_
      refine g_i2l rfl ?_
      have hs1 := sums_r (pg s) b 512
      have hs2 := sums_nn (l := pg s) (b := b) hyes.1 512 (by omega)
      refine g_Vn (z := yMd_octal) (e := 1) (A := [aL (sums (pg s) b 512), aI 6, aI ((512 * b) + 148)]) (rest := [])  rfl rfl rfl rfl rfl rfl (by omega) (xF_ob hW) hW.b0 (m_octal hW (512 * b + 148) (sums (pg s) b 512) 6 (by omega) (by omega) (by omega) (by omega) (by omega)) ?_
      intro hh7 hW
      refine g_aload_n rfl rfl ?_
      refine g_get (ci := 8) (kk := 12) rfl rfl (xF_ob hW) hW.b0 rfl ?_
      refine g_sipush (n := 512) rfl (by decide) ?_
      refine g_iload_n rfl rfl ?_
      refine g_imul rfl (by omega) ?_
      refine g_sipush (n := 155) rfl (by decide) ?_
      refine g_iadd rfl (by omega) ?_
      refine g_bipush (n := 32) rfl (by decide) ?_
      refine g_bast rfl (xF_a12 hW) hW.bk (by omega) ?_
      generalize hg_hh8 : hput hh7 (m0 + 12) (eA 1 10240 (va_up ((octF (s.1 12) (512 * b + 148) 6 (sums (pg s) b 512))) ((512 * b) + 155).toNat (a8 32))) = hh8
      have hW := xF_12 hW (512 * b + 155).toNat (a8_r 32)
      rw [hg_hh8] at hW
      refine g_iload_n rfl rfl ?_
      have hP2 := (hP0.oct (f := 512 * b + 148) (v := sums (pg s) b 512) (m := 6) (by omega) (by omega)).put (i := 512 * b + 155) (b := 32) (by omega) (by rw [poct_len]; omega)
      have hpg := hP2.pg (s := s1) (W := s.1 13) (n := s.2 16) (C := s.1 14) (by rw [rput_len, poct_len, r13]; exact hl)
      have hpe : rput (poct (pg s) (512 * b + 148) 6 (sums (pg s) b 512)) (512 * b + 155) 32 = pchk (pg s) b := by
        unfold pchk
        rw [show 512 * b = b * 512 by omega]
      rw [hpe] at hpg
      exact r_i rfl rfl (pk_t hyes).symm (by rw [pkS_t hyes, pk_t hyes]; exact mp_page ht hb hM hW (fun k k1 k2 => by rw [xF_k _ _ _ _ _ k2, r1]) r11 r14 (by show 0 ≤ s1.2 13 ∧ s1.2 13 ≤ 10240; rw [r13]; exact hmm) r26 hpg)
    · skip
      have y2 := c4
      refine g_iconst (n := 1) rfl (by decide) ?_
      refine g_goto rfl rfl ?_
      refine g_iconst (n := 1) rfl (by decide) ?_
      have hno : ¬ (0 ≤ b ∧ b < ((pg s).length : Int) / 512) := fun q => by omega
      refine g_V (z := yMd_fails) (e := 1) (A := [aI 1, aI 1]) (rest := []) (v := aI 1)  rfl rfl rfl rfl rfl rfl (by omega) hW.ob hW.b0 (m_f hM hW 1 (by omega)) ?_
      intro hh9 hq
      obtain ⟨s1, hW, r1, r2, r26, hM1, rm⟩ := hq
      have r13 := r2 13 (by decide)
      have r11 := r2 11 (by decide)
      have r14 := r2 14 (by decide)
      refine g_ifeq rfl rfl (fun c => absurd c (by decide)) (fun c => ?_)
      refine g_iconst (n := 0) rfl (by decide) ?_
      have hend : MP B m0 (mst s) t 1 hh9 := mp_same ht hb hM hW (fun k k1 k2 => by
        by_cases z : k = 12
        · subst z
          rfl
        · rw [xF_k _ _ _ _ _ (by omega), r1]) r11 r14 r13 r26
      exact r_i rfl rfl (pk_f hno).symm (by rw [pkS_f hno, pk_f hno]; exact hend)
end Md14
