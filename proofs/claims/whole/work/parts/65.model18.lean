/-! The reference: contents. -/
section Md18
variable {B h : AH} {m0 d t : Nat} {s s' : MS} {c : Int}
/-- a node's body is another -/
theorem se_body (ht : t < 2) (hM : MOK s) {i : Nat} (hi : i < 30) {L : List Int} (hL : L.length ≤ 2000) (h7 : s'.1 7 = va_up (s.1 7) (30 * t + i) (L.length : Int)) (h11 : ∀ x : Nat, s'.1 11 x = if 2000 * (30 * t + i) ≤ x ∧ x < 2000 * (30 * t + i) + L.length then L.getD (x - 2000 * (30 * t + i)) 0 else if 2000 * (30 * t + i) ≤ x ∧ x < 2000 * (30 * t + i) + 2000 then s'.1 11 x else s.1 11 x) (ho : ∀ k, k ≠ 7 → k ≠ 11 → s'.1 k = s.1 k) (h2 : ∀ k, k ≠ 26 → s'.2 k = s.2 k) : SE (uR (mst s) (2 * (30 * t + i) + 1) L) (mst s') t ∧ MOK s' := by
  have hcn := hM.2.1 t ht
  have v7 : ∀ k, s'.1 7 k = if k = 30 * t + i then (L.length : Int) else s.1 7 k := fun k => by rw [h7]; rfl
  constructor
  · refine ⟨⟨by show (s'.1 9 t).toNat = (s.1 9 t).toNat; rw [ho 9 (by decide) (by decide)], fun j hj => ?_⟩, ?_, ?_, ?_⟩
    · have hj2 : j < (s.1 9 t).toNat := hj
      refine ⟨fun k hk => ?_, ?_, ?_⟩
      · rcases (by omega : k = 0 ∨ k = 1 ∨ k = 2 ∨ k = 3 ∨ k = 4 ∨ k = 5) with z | z | z | z | z | z <;> subst z
        · exact congrFun (ho 1 (by decide) (by decide)) _
        · exact congrFun (ho 2 (by decide) (by decide)) _
        · exact congrFun (ho 8 (by decide) (by decide)) _
        · exact congrFun (ho 4 (by decide) (by decide)) _
        · exact congrFun (ho 5 (by decide) (by decide)) _
        · exact congrFun (ho 6 (by decide) (by decide)) _
      · show ((mst s').1 (2 * (mst s').2.2.1 t j)) = (uR (mst s) (2 * (30 * t + i) + 1) L).1 (2 * (30 * t + j))
        rw [uR_ne _ _ (by omega), mst_nm s' ht (by omega)]
        show nmM s' (30 * t + j) = ((mst s).1 (2 * (mst s).2.2.1 t j))
        rw [mst_nm s ht (by omega)]
        unfold nmM
        rw [ho 3 (by decide) (by decide), ho 10 (by decide) (by decide)]
      · show ((mst s').1 (2 * (mst s').2.2.1 t j + 1)) = (uR (mst s) (2 * (30 * t + i) + 1) L).1 (2 * (30 * t + j) + 1)
        rw [mst_bd s' ht (by omega)]
        by_cases e : j = i
        · subst e
          rw [uR_get]
          unfold bdM
          rw [v7, if_pos rfl, Int.toNat_natCast]
          refine (oF_ext fun x hx => ?_).trans (oF_of L)
          rw [h11, if_pos ⟨by omega, by omega⟩]
          congr 1
          omega
        · rw [uR_ne _ _ (by omega)]
          show bdM s' (30 * t + j) = ((mst s).1 (2 * (mst s).2.2.1 t j + 1))
          rw [mst_bd s ht (by omega)]
          have hm := hM.1 (30 * t + j) (by omega)
          unfold bdM
          rw [v7, if_neg (by omega)]
          refine oF_ext fun x hx => ?_
          rw [h11, if_neg (by omega), if_neg (by omega)]
    · rw [uR_ne _ _ (by omega)]
      show pg s' = pg s
      unfold pg
      rw [h2 13 (by decide), ho 12 (by decide) (by decide)]
    · show s'.2 11 / 30 = s.2 11 / 30
      rw [h2 11 (by decide)]
    · exact h2 14 (by decide)
  · refine ⟨fun k hk => ?_, by rw [ho 9 (by decide) (by decide)]; exact hM.2.1, by rw [h2 11 (by decide)]; exact hM.2.2.1, by rw [h2 13 (by decide)]; exact hM.2.2.2⟩
    have hm := hM.1 k hk
    rw [ho 3 (by decide) (by decide), v7]
    split
    · omega
    · exact hm
def cbF (F0 : Nat → Int) (K : Nat) (seed j : Int) : Nat → Int := fun x => if 2000 * K ≤ x ∧ (x : Int) < 2000 * K + j then a8 (seed + 31 * ((x : Int) - 2000 * K)) else F0 x
theorem co_loop {P : AH → Prop} (s2 : MS) (F0 : Nat → Int) (nd len seed : Int) (K : Nat) (hK : K < 60) (hl : len ≤ 2000) (hs0 : 0 ≤ seed) (hs1 : seed ≤ 255) (kk : ∀ (h : AH) (s : MS), WM B m0 h s → s.1 11 = cbF F0 K seed len → (∀ k, k ≠ 11 → s.1 k = s2.1 k) → s.2 = s2.2 → P h) : ∀ (q : Nat) (j : Int) (h : AH) (s : MS), 0 ≤ j → j ≤ len → (len - j).toNat ≤ q → WM B m0 h s → s.1 11 = cbF F0 K seed j → (∀ k, k ≠ 11 → s.1 k = s2.1 k) → s.2 = s2.2 → Go d yMd_contents 78 [aR m0, aI nd, aI len, aI seed, aI (K : Int), aI j] [] h (RV none P) := by
  intro q
  induction q with
  | zero =>
    intro j h s h0 h1 h2 hW a1 a2 a3
    obtain rfl : j = len := by omega
    refine g_iload rfl rfl ?_
    refine g_iload_n rfl rfl ?_
    refine g_icmpge rfl rfl (fun c1 => ?_) (fun c => absurd c (by omega))
    exact r_v rfl rfl (kk _ _ hW a1 a2 a3)
  | succ q ih =>
    intro j h s h0 h1 h2 hW a1 a2 a3
    by_cases hj : j < len
    · have e1 : (2000 * (K : Int) + j).toNat = 2000 * K + j.toNat := by omega
      refine g_iload rfl rfl ?_
      refine g_iload_n rfl rfl ?_
      refine g_icmpge rfl rfl (fun c => absurd c (by omega)) (fun c1 => ?_)
      refine g_aload_n rfl rfl ?_
      refine g_get (ci := 8) (kk := 10) rfl rfl hW.ob hW.b0 rfl ?_
      refine g_sipush (n := 2000) rfl (by decide) ?_
      refine g_iload rfl rfl ?_
      refine g_imul rfl (by omega) ?_
      refine g_iload rfl rfl ?_
      refine g_iadd rfl (by omega) ?_
      refine g_iload_n rfl rfl ?_
      refine g_bipush (n := 31) rfl (by decide) ?_
      refine g_iload rfl rfl ?_
      refine g_imul rfl (by omega) ?_
      refine g_iadd rfl (by omega) ?_
      refine g_i2b rfl ?_
      refine g_bast rfl hW.a11 hW.bk (by omega) ?_
      generalize hg_hh2 : hput h (m0 + 11) (eA 1 120000 (va_up (s.1 11) ((2000 * ((K : Int))) + j).toNat (a8 (a8 (seed + (31 * j)))))) = hh2
      obtain ⟨s3, hW, q11, o11, p11⟩ := hW.st (k := 11) (i := (2000 * (K : Int) + j).toNat) (v := a8 (a8 (seed + 31 * j))) (by omega) (by omega) (fun _ => a8_r _)
      rw [show (eA (mty 11) (mln 11) (va_up (s.1 11) (2000 * (K : Int) + j).toNat (a8 (a8 (seed + 31 * j)))) : AE) = eA 1 120000 (va_up (s.1 11) (2000 * (K : Int) + j).toNat (a8 (a8 (seed + 31 * j)))) from rfl, hg_hh2] at hW
      have b1 : s3.1 11 = cbF F0 K seed (j + 1) := by
        rw [q11, a1, a8_of (a8_r _), e1]
        funext x
        unfold va_up cbF
        by_cases z : x = 2000 * K + j.toNat
        · rw [if_pos z, if_pos (by omega), show (x : Int) - 2000 * (K : Int) = j by omega]
        · rw [if_neg z]
          by_cases z2 : 2000 * K ≤ x ∧ (x : Int) < 2000 * (K : Int) + j
          · rw [if_pos z2, if_pos (by omega)]
          · rw [if_neg z2, if_neg (by omega)]
      refine g_iinc (L' := [aR m0, aI nd, aI len, aI seed, aI ((K : Int)), aI (j + 1)]) rfl rfl (by omega) rfl ?_
      refine g_goto rfl rfl ?_
      exact ih (j + 1) _ s3 (by omega) (by omega) (by omega) hW b1 (fun k hk => (o11 k hk).trans (a2 k hk)) (p11.trans a3)
    · obtain rfl : j = len := by omega
      refine g_iload rfl rfl ?_
      refine g_iload_n rfl rfl ?_
      refine g_icmpge rfl rfl (fun c1 => ?_) (fun c => absurd c (by omega))
      exact r_v rfl rfl (kk _ _ hW a1 a2 a3)
theorem m_contents (hd2 : 2 ≤ d) (ht : t < 2) (hb : s.2 11 = 30 * (t : Int)) (hM : MOK s) (hW : WM B m0 h s) (node len seed : Int) : Cal d yMd_contents [aR m0, aI node, aI len, aI seed] h (RV none (MP B m0 (pkS (coOK (mst s) t node len seed) (coF (mst s) t node len seed) (mst s)) t (pk (coOK (mst s) t node len seed) 0 1))) := by
  have hcn := hM.2.1 t ht
  have hC : ((mst s).2.2.2.1 t) = (s.1 9 t).toNat := rfl
  show Go _ _ 0 [aR m0, aI node, aI len, aI seed, none, none] [] _ _
  refine g_aload_n rfl rfl ?_
  refine g_aload_n rfl rfl ?_
  refine g_iload_n rfl rfl ?_
  refine g_V (z := yMd_isNode) (e := 1) (A := [aI node]) (rest := [aR m0]) (v := aI (pz (hs (mst s) t node))) (P := fun h2 => h2 = h) rfl rfl rfl rfl rfl rfl (by omega) hW.ob hW.b0 (m_isNode2 (by omega) ht hb hM hW _) ?_
  intro hh9 he9
  rw [he9]
  clear he9 hh9
  refine g_ifeq rfl rfl (fun c1 => ?_) (fun c1 => ?_)
  · skip
    have y1 := c1
    refine g_iconst (n := 1) rfl (by decide) ?_
    refine g_goto rfl rfl ?_
    refine g_iconst (n := 1) rfl (by decide) ?_
    have hno : ¬ (coOK (mst s) t node len seed) := fun q => by first | exact pz_eq y4 q.2.2.2 | exact pz_eq y3 q.2.2.1 | exact y2 q.2.1 | exact pz_eq y1 q.1
    refine g_V (z := yMd_fails) (e := 1) (A := [aI 1, aI 1]) (rest := []) (v := aI 1)  rfl rfl rfl rfl rfl rfl (by omega) hW.ob hW.b0 (m_g hM hW 1 1 (by omega)) ?_
    intro hh2 hq
    obtain ⟨s1, hW, r1, r2, r26, hM1, rm⟩ := hq
    have r11 := r2 11 (by decide)
    refine g_ifeq rfl rfl (fun c => absurd c (by decide)) (fun c => ?_)
    exact r_v rfl rfl (by rw [pkS_f hno, pk_f hno]; exact mp_eq hb hM1 hW r11 r26 rm)
  · skip
    have y1 := c1
    have z1 := pz_ne y1
    have z1a := z1.1
    have z1b := z1.2
    refine g_aload_n rfl rfl ?_
    refine g_get (ci := 8) (kk := 0) rfl rfl hW.ob hW.b0 rfl ?_
    refine g_aload_n rfl rfl ?_
    refine g_get (ci := 8) (kk := 11) rfl rfl hW.ob hW.b0 rfl ?_
    rw [show s.2 11 = 30 * (t : Int) from hb]
    refine g_iload_n rfl rfl ?_
    refine g_iadd rfl (by omega) ?_
    refine g_iald rfl hW.a1 (by omega) ?_
    rw [show (s.1 1) ((30 * (t : Int)) + node).toNat = s.1 1 (30 * t + node.toNat) from by rw [show (30 * (t : Int) + node).toNat = 30 * t + node.toNat by omega]]
    refine g_iconst (n := 1) rfl (by decide) ?_
    refine g_icmpne rfl rfl (fun c4 => ?_) (fun c4 => ?_)
    · skip
      have y2 := c4
      refine g_iconst (n := 1) rfl (by decide) ?_
      refine g_goto rfl rfl ?_
      refine g_iconst (n := 1) rfl (by decide) ?_
      have hno : ¬ (coOK (mst s) t node len seed) := fun q => by first | exact pz_eq y4 q.2.2.2 | exact pz_eq y3 q.2.2.1 | exact y2 q.2.1 | exact pz_eq y1 q.1
      refine g_V (z := yMd_fails) (e := 1) (A := [aI 1, aI 1]) (rest := []) (v := aI 1)  rfl rfl rfl rfl rfl rfl (by omega) hW.ob hW.b0 (m_g hM hW 1 1 (by omega)) ?_
      intro hh5 hq
      obtain ⟨s1, hW, r1, r2, r26, hM1, rm⟩ := hq
      have r11 := r2 11 (by decide)
      refine g_ifeq rfl rfl (fun c => absurd c (by decide)) (fun c => ?_)
      exact r_v rfl rfl (by rw [pkS_f hno, pk_f hno]; exact mp_eq hb hM1 hW r11 r26 rm)
    · skip
      have y2 := c4
      refine g_iload_n rfl rfl ?_
      refine g_iconst (n := 0) rfl (by decide) ?_
      refine g_sipush (n := 2000) rfl (by decide) ?_
      refine g_S (z := yMd_within) (e := 1) (A := [aI 2000, aI 0, aI len]) (rest := [aR m0]) (v := aI (pz (0 ≤ len ∧ len ≤ 2000))) (P := fun h2 => h2 = h) rfl rfl rfl rfl rfl rfl (by omega) (m_within _ _ _) ?_
      intro hh9 he9
      rw [he9]
      clear he9 hh9
      refine g_ifeq rfl rfl (fun c7 => ?_) (fun c7 => ?_)
      · skip
        have y3 := c7
        refine g_iconst (n := 1) rfl (by decide) ?_
        refine g_goto rfl rfl ?_
        refine g_iconst (n := 1) rfl (by decide) ?_
        have hno : ¬ (coOK (mst s) t node len seed) := fun q => by first | exact pz_eq y4 q.2.2.2 | exact pz_eq y3 q.2.2.1 | exact y2 q.2.1 | exact pz_eq y1 q.1
        refine g_V (z := yMd_fails) (e := 1) (A := [aI 1, aI 1]) (rest := []) (v := aI 1)  rfl rfl rfl rfl rfl rfl (by omega) hW.ob hW.b0 (m_g hM hW 1 1 (by omega)) ?_
        intro hh8 hq
        obtain ⟨s1, hW, r1, r2, r26, hM1, rm⟩ := hq
        have r11 := r2 11 (by decide)
        refine g_ifeq rfl rfl (fun c => absurd c (by decide)) (fun c => ?_)
        exact r_v rfl rfl (by rw [pkS_f hno, pk_f hno]; exact mp_eq hb hM1 hW r11 r26 rm)
      · skip
        have y3 := c7
        refine g_iload_n rfl rfl ?_
        refine g_iconst (n := 0) rfl (by decide) ?_
        refine g_sipush (n := 255) rfl (by decide) ?_
        refine g_S (z := yMd_within) (e := 1) (A := [aI 255, aI 0, aI seed]) (rest := [aR m0]) (v := aI (pz (0 ≤ seed ∧ seed ≤ 255))) (P := fun h2 => h2 = h) rfl rfl rfl rfl rfl rfl (by omega) (m_within _ _ _) ?_
        intro hh9 he9
        rw [he9]
        clear he9 hh9
        refine g_ifne rfl rfl (fun c10 => ?_) (fun c10 => ?_)
        · skip
          have y4 := c10
          refine g_iconst (n := 0) rfl (by decide) ?_
          refine g_iconst (n := 1) rfl (by decide) ?_
          have hyes : (coOK (mst s) t node len seed) := ⟨pz_ne y1, y2, pz_ne y3, pz_ne y4⟩
          refine g_V (z := yMd_fails) (e := 1) (A := [aI 1, aI 0]) (rest := []) (v := aI 0)  rfl rfl rfl rfl rfl rfl (by omega) hW.ob hW.b0 (m_g hM hW 0 1 (by omega)) ?_
          intro hh11 hq
          obtain ⟨s1, hW, r1, r2, r26, hM1, rm⟩ := hq
          have r11 := r2 11 (by decide)
          refine g_ifeq rfl rfl (fun c => ?_) (fun c => absurd c (by decide))
          have hh1 := hyes.1.1
          have hh2 := hyes.1.2
          obtain ⟨i, rfl⟩ : ∃ i : Nat, node = i := ⟨node.toNat, by omega⟩
          have e1 : (30 * (t : Int) + (i : Int)).toNat = 30 * t + i := by omega
          have hb1 : s1.2 11 = 30 * (t : Int) := r11.trans hb
          refine g_aload_n rfl rfl ?_
          refine g_get (ci := 8) (kk := 11) rfl rfl hW.ob hW.b0 rfl ?_
          rw [show s1.2 11 = 30 * (t : Int) from hb1]
          refine g_iload_n rfl rfl ?_
          refine g_iadd rfl (by omega) ?_
          refine g_istore (L' := [aR m0, aI ((i : Int)), aI len, aI seed, aI ((30 * (t : Int)) + ((i : Int))), none]) rfl rfl ?_
          refine g_aload_n rfl rfl ?_
          refine g_get (ci := 8) (kk := 6) rfl rfl hW.ob hW.b0 rfl ?_
          refine g_iload rfl rfl ?_
          refine g_iload_n rfl rfl ?_
          refine g_iast rfl hW.a7 hW.bk (by omega) ?_
          generalize hg_hh13 : hput hh11 (m0 + 7) (eA 0 60 (va_up (s1.1 7) ((30 * (t : Int)) + ((i : Int))).toNat len)) = hh13
          obtain ⟨s2, hW, q7, o7, p7⟩ := hW.st (k := 7) (i := (30 * (t : Int) + (i : Int)).toNat) (v := len) (by omega) (by omega) (fun z => absurd z (by decide))
          rw [show (eA (mty 7) (mln 7) (va_up (s1.1 7) (30 * (t : Int) + (i : Int)).toNat len) : AE) = eA 0 60 (va_up (s1.1 7) (30 * (t : Int) + (i : Int)).toNat len) from rfl, hg_hh13] at hW
          rw [e1] at q7
          refine g_iconst (n := 0) rfl (by decide) ?_
          refine g_istore (L' := [aR m0, aI ((i : Int)), aI len, aI seed, aI ((30 * (t : Int)) + ((i : Int))), aI 0]) rfl rfl ?_
          have hyl := hyes.2.2.1
          have hys := hyes.2.2.2
          have hcl : (ctL len seed).length = len.toNat := oF_len _ _
          have e9 : 30 * (t : Int) + (i : Int) = ((30 * t + i : Nat) : Int) := by omega
          rw [e9]
          refine co_loop (d := d) (B := B) (m0 := m0) s2 (s.1 11) (i : Int) len seed (30 * t + i) (by omega) hyl.2 hys.1 hys.2 (fun h s3 hW f11 fo f2 => ?_) len.toNat 0 _ s2 (by omega) (by omega) (by omega) hW (by rw [o7 11 (by decide), r1]; funext x; unfold cbF; rw [if_neg (by omega)]) (fun _ _ => rfl) rfl
          have hbd := se_body (s := s) (s' := s3) ht hM (i := i) (by omega) (L := ctL len seed) (by omega) (by rw [fo 7 (by decide), q7, r1, hcl, show ((len.toNat : Nat) : Int) = len by omega]) (fun x => by
            rw [f11]
            unfold cbF
            by_cases z : 2000 * (30 * t + i) ≤ x ∧ (x : Int) < 2000 * ((30 * t + i : Nat) : Int) + len
            · rw [if_pos z, if_pos (by omega)]
              unfold ctL
              rw [oF_get (by omega), show ((x - 2000 * (30 * t + i) : Nat) : Int) = (x : Int) - 2000 * ((30 * t + i : Nat) : Int) by omega]
            · rw [if_neg z, if_neg (by omega)]
              split <;> rfl) (fun k k7 k11 => by rw [fo k k11, o7 k k7, r1]) (fun k k26 => by rw [f2, p7]; exact r2 k k26)
          rw [pkS_t hyes, pk_t hyes]
          exact mp_of ht (by rw [f2, p7]; exact hb1) hbd.2 hW (by rw [f2, p7]; exact r26) hbd.1
        · skip
          have y4 := c10
          refine g_iconst (n := 1) rfl (by decide) ?_
          refine g_goto rfl rfl ?_
          refine g_iconst (n := 1) rfl (by decide) ?_
          have hno : ¬ (coOK (mst s) t node len seed) := fun q => by first | exact pz_eq y4 q.2.2.2 | exact pz_eq y3 q.2.2.1 | exact y2 q.2.1 | exact pz_eq y1 q.1
          refine g_V (z := yMd_fails) (e := 1) (A := [aI 1, aI 1]) (rest := []) (v := aI 1)  rfl rfl rfl rfl rfl rfl (by omega) hW.ob hW.b0 (m_g hM hW 1 1 (by omega)) ?_
          intro hh14 hq
          obtain ⟨s1, hW, r1, r2, r26, hM1, rm⟩ := hq
          have r11 := r2 11 (by decide)
          refine g_ifeq rfl rfl (fun c => absurd c (by decide)) (fun c => ?_)
          exact r_v rfl rfl (by rw [pkS_f hno, pk_f hno]; exact mp_eq hb hM1 hW r11 r26 rm)
end Md18
