/-! The reference: remove itself. -/
section Md25
variable {B h : AH} {m0 d t num C : Nat} {s1 s s' : MS} {c : Int}
def SN (s1 s : MS) (n : Nat) : Prop := (∀ a, 1 ≤ a → a ≤ 8 → s.1 a n = s1.1 a n) ∧ (∀ j, j < 100 → s.1 10 (100 * n + j) = s1.1 10 (100 * n + j)) ∧ ∀ j, j < 2000 → s.1 11 (2000 * n + j) = s1.1 11 (2000 * n + j)
noncomputable def nwR (s1 : MS) (t num : Nat) : Nat → Int := fun j => nw (mst s1) t num j
def R4 (s1 s : MS) (t num C k : Nat) : Prop := s.2 = s1.2 ∧ s.1 9 = s1.1 9 ∧ (∀ a, 12 ≤ a → a ≠ 20 → s.1 a = s1.1 a) ∧ (∀ j : Nat, j < C → s.1 20 j = nw (mst s1) t num j) ∧ (∀ n, n < 30 * t ∨ 30 * t + kp (mst s1) t num k ≤ n → SN s1 s n) ∧ (∀ i, i < k → ¬ gn (mst s1) t num i → MV s1 s (nwR s1 t num) (30 * t + i) (30 * t + kp (mst s1) t num i)) ∧ ∀ n, n < 60 → 0 ≤ s.1 3 n ∧ s.1 3 n ≤ 100 ∧ 0 ≤ s.1 7 n ∧ s.1 7 n ≤ 2000
theorem SN.rf (s : MS) (n : Nat) : SN s s n := ⟨fun _ _ _ => rfl, fun _ _ => rfl, fun _ _ => rfl⟩
theorem SN.fr {T n : Nat} (a : SN s1 s n) (f : FR s s' T) (h : n ≠ T) : SN s1 s' n := ⟨fun k h1 h2 => (f.1 k h1 h2 n h).trans (a.1 k h1 h2), fun j hj => (f.2.1 _ (by omega)).trans (a.2.1 j hj), fun j hj => (f.2.2 _ (by omega)).trans (a.2.2 j hj)⟩
theorem MV.fr {T F K : Nat} {R : Nat → Int} (hm : s1.1 3 F ≤ 100 ∧ s1.1 7 F ≤ 2000) (a : MV s1 s R F T) (f : FR s s' K) (h : T ≠ K) : MV s1 s' R F T := by
  obtain ⟨⟨a1, a2, a3, a4, a5, a6, a7, a8⟩, b, c⟩ := a
  refine ⟨⟨(f.1 1 (by omega) (by omega) T h).trans a1, (f.1 2 (by omega) (by omega) T h).trans a2, (f.1 3 (by omega) (by omega) T h).trans a3, (f.1 4 (by omega) (by omega) T h).trans a4, (f.1 5 (by omega) (by omega) T h).trans a5, (f.1 6 (by omega) (by omega) T h).trans a6, (f.1 7 (by omega) (by omega) T h).trans a7, (f.1 8 (by omega) (by omega) T h).trans a8⟩, fun j hj => ?_, fun j hj => ?_⟩
  · rw [f.2.1 _ (by omega)]
    exact b j hj
  · rw [f.2.2 _ (by omega)]
    exact c j hj
theorem MV.sn {T F : Nat} {R R' : Nat → Int} (hm : s1.1 3 F ≤ 100 ∧ s1.1 7 F ≤ 2000) (n : SN s1 s F) (a : MV s s' R F T) (h2 : rnv R (s1.1 2 F) = rnv R' (s1.1 2 F)) (h8 : rnv R (s1.1 8 F) = rnv R' (s1.1 8 F)) : MV s1 s' R' F T := by
  obtain ⟨⟨a1, a2, a3, a4, a5, a6, a7, a8⟩, b, c⟩ := a
  obtain ⟨n1, n2, n3⟩ := n
  rw [n1 3 (by omega) (by omega)] at b
  rw [n1 7 (by omega) (by omega)] at c
  refine ⟨⟨a1.trans (n1 1 (by omega) (by omega)), ?_, a3.trans (n1 3 (by omega) (by omega)), a4.trans (n1 4 (by omega) (by omega)), a5.trans (n1 5 (by omega) (by omega)), a6.trans (n1 6 (by omega) (by omega)), a7.trans (n1 7 (by omega) (by omega)), ?_⟩, fun j hj => ?_, fun j hj => ?_⟩
  · rw [a2, n1 2 (by omega) (by omega), h2]
  · rw [a8, n1 8 (by omega) (by omega), h8]
  · rw [b j hj, n2 j (by omega)]
  · rw [c j hj, n3 j (by omega)]
theorem rv_x (hT : TI (mst s1) t) {k : Nat} (hk : k < ((mst s1).2.2.2.1 t)) : (s1.1 2 (30 * t + k) = -1 ∨ (0 ≤ s1.1 2 (30 * t + k) ∧ s1.1 2 (30 * t + k) < ((mst s1).2.2.2.1 t))) ∧ (s1.1 8 (30 * t + k) = -1 ∨ (0 ≤ s1.1 8 (30 * t + k) ∧ s1.1 8 (30 * t + k) < ((mst s1).2.2.2.1 t))) := by
  constructor
  · by_cases e : k = 0
    · subst e
      exact Or.inl hT.r.2.1
    · have q := hT.d k (by omega) hk
      have y : ((mst s1).2.1 ((mst s1).2.2.1 t k) 1) = s1.1 2 (30 * t + k) := rfl
      rw [y] at q
      exact Or.inr (by omega)
  · have q := hT.f k hk
    have y : ((mst s1).2.1 ((mst s1).2.2.1 t k) 2) = s1.1 8 (30 * t + k) := rfl
    rw [y] at q
    by_cases e : ((mst s1).2.1 ((mst s1).2.2.1 t k) 0) = 3
    · have z := q.1 e
      exact Or.inr (by omega)
    · exact Or.inl (q.2 e)
theorem rv_loop4 {Q : AO → AH → Prop} (hT : TI (mst s1) t) (hM1 : MOK s1) (ht : t < 2) (hb : s1.2 11 = 30 * (t : Int)) (hC : C = ((mst s1).2.2.2.1 t)) (v3 : Int) (kk : ∀ (h : AH) (s : MS), WM B m0 h s → R4 s1 s t num C C → Go d yMd_remove 268 [aR m0, aI (num : Int), aI (C : Int), aI v3, aI ((kp (mst s1) t num C : Nat) : Int), aI (C : Int)] [] h Q) (hd1 : 1 ≤ d) : ∀ (q k : Nat) (h : AH) (s : MS), k + q = C → WM B m0 h s → R4 s1 s t num C k → Go d yMd_remove 222 [aR m0, aI (num : Int), aI (C : Int), aI v3, aI ((kp (mst s1) t num C : Nat) : Int), aI (k : Int)] [] h Q := by
  have hc30 := hT.c.2
  intro q
  induction q with
  | zero =>
    intro k h s h1 hW r
    obtain rfl : k = C := by omega
    refine g_iload rfl rfl ?_
    refine g_iload_n rfl rfl ?_
    refine g_icmpge rfl rfl (fun c1 => ?_) (fun c => absurd c (by omega))
    exact kk _ _ hW r
  | succ q ih =>
    intro k h s h1 hW r
    have hk : k < C := by omega
    obtain ⟨r2, r9, r12, r20, rn, rm, rl⟩ := r
    have hkp := kp_le (st := mst s1) (t := t) (num := num) k
    have hbs : s.2 11 = 30 * (t : Int) := by rw [r2]; exact hb
    have hlF := hM1.1 (30 * t + k) (by omega)
    obtain ⟨x2, x8⟩ := rv_x hT (k := k) (by omega)
    have hsn := rn (30 * t + k) (by omega)
    have hMs : MOK s := ⟨rl, by rw [r9]; exact hM1.2.1, by rw [r2]; exact hM1.2.2.1, by rw [r2]; exact hM1.2.2.2⟩
    refine g_iload rfl rfl ?_
    refine g_iload_n rfl rfl ?_
    refine g_icmpge rfl rfl (fun c => absurd c (by omega)) (fun c1 => ?_)
    refine g_aload_n rfl rfl ?_
    refine g_get (ci := 8) (kk := 25) rfl rfl hW.ob hW.b0 rfl ?_
    refine g_iload rfl rfl ?_
    refine g_iald rfl hW.a20 (by omega) ?_
    rw [show (s.1 20) ((k : Int)).toNat = nw (mst s1) t num k from by rw [Int.toNat_natCast]; exact r20 k hk]
    refine g_iconst (n := -1) rfl (by decide) ?_
    refine g_icmpeq rfl rfl (fun c2 => ?_) (fun c2 => ?_)
    · skip
      have y4 : gn (mst s1) t num k := Classical.byContradiction fun z => by
        rw [nw_f z] at c2
        omega
      refine g_iinc (L' := [aR m0, aI ((num : Int)), aI ((C : Int)), aI v3, aI (((kp (mst s1) t num C : Nat) : Int)), aI ((k : Int) + 1)]) rfl rfl (by omega) rfl ?_
      refine g_goto rfl rfl ?_
      have hkf := kp_f y4
      exact ih (k + 1) _ s (by omega) hW ⟨r2, r9, r12, r20, fun n hn => rn n (by omega), fun i hi hg => rm i (by have : i ≠ k := (fun e => hg (by rw [e]; exact y4)); omega) hg, rl⟩
    · skip
      have y4 : ¬ gn (mst s1) t num k := fun z => c2 (nw_t z)
      refine g_aload_n rfl rfl ?_
      refine g_aload_n rfl rfl ?_
      refine g_get (ci := 8) (kk := 11) rfl rfl hW.ob hW.b0 rfl ?_
      rw [show s.2 11 = 30 * (t : Int) from hbs]
      refine g_iload rfl rfl ?_
      refine g_iadd rfl (by omega) ?_
      refine g_aload_n rfl rfl ?_
      refine g_get (ci := 8) (kk := 11) rfl rfl hW.ob hW.b0 rfl ?_
      rw [show s.2 11 = 30 * (t : Int) from hbs]
      refine g_aload_n rfl rfl ?_
      refine g_get (ci := 8) (kk := 25) rfl rfl hW.ob hW.b0 rfl ?_
      refine g_iload rfl rfl ?_
      refine g_iald rfl hW.a20 (by omega) ?_
      rw [show (s.1 20) ((k : Int)).toNat = ((kp (mst s1) t num k : Nat) : Int) from by rw [Int.toNat_natCast, r20 k hk, nw_f y4]]
      refine g_iadd rfl (by omega) ?_
      rw [show 30 * (t : Int) + ((kp (mst s1) t num k : Nat) : Int) = ((30 * t + kp (mst s1) t num k : Nat) : Int) from rfl, show 30 * (t : Int) + (k : Int) = ((30 * t + k : Nat) : Int) from rfl]
      refine g_Vn (z := yMd_move) (e := 1) (A := [aI (((30 * t + kp (mst s1) t num k : Nat) : Int)), aI (((30 * t + k : Nat) : Int))]) (rest := [])  rfl rfl rfl rfl rfl rfl (by omega) hW.ob hW.b0 (m_move hMs hW (30 * t + k) (30 * t + kp (mst s1) t num k) (by omega) (by omega) (by rw [hsn.1 2 (by omega) (by omega)]; omega) (by rw [hsn.1 8 (by omega) (by omega)]; omega)) ?_
      intro hh3 hq
      obtain ⟨s3, hW, mv, fr, m9, m2⟩ := hq
      have hre : ∀ x : Int, x = -1 ∨ (0 ≤ x ∧ x < ((mst s1).2.2.2.1 t)) → rnv (s.1 20) x = rnv (nwR s1 t num) x := fun x hx => by
        unfold rnv
        by_cases e : x = -1
        · rw [if_pos e, if_pos e]
        · rw [if_neg e, if_neg e]
          exact r20 x.toNat (by omega)
      have mv1 := mv.sn ⟨hlF.2.1, hlF.2.2.2⟩ hsn (hre _ x2) (hre _ x8)
      have hkt := kp_t y4
      have r4 : R4 s1 s3 t num C (k + 1) := by
        refine ⟨m2.trans r2, (m9 9 (by omega)).trans r9, fun a a1 a2 => (m9 a (by omega)).trans (r12 a a1 a2), fun j hj => by rw [m9 20 (by omega)]; exact r20 j hj, fun n hn => ?_, fun i hi hg => ?_, fun n hn => ?_⟩
        · rw [hkt] at hn
          exact (rn n (by omega)).fr fr (by omega)
        · by_cases e : i = k
          · subst e
            exact mv1
          · have hl := kp_lt (st := mst s1) (t := t) (num := num) hg (show i < k by omega)
            have hli := hM1.1 (30 * t + i) (by omega)
            exact (rm i (by omega) hg).fr ⟨hli.2.1, hli.2.2.2⟩ fr (by omega)
        · by_cases e : n = 30 * t + kp (mst s1) t num k
          · rw [e, mv.1.2.2.1, mv.1.2.2.2.2.2.2.1]
            exact rl (30 * t + k) (by omega)
          · rw [fr.1 3 (by omega) (by omega) n e, fr.1 7 (by omega) (by omega) n e]
            exact rl n hn
      refine g_iinc (L' := [aR m0, aI ((num : Int)), aI ((C : Int)), aI v3, aI (((kp (mst s1) t num C : Nat) : Int)), aI ((k : Int) + 1)]) rfl rfl (by omega) rfl ?_
      refine g_goto rfl rfl ?_
      exact ih (k + 1) _ s3 (by omega) hW r4
theorem m_remove (hd2 : 2 ≤ d) (ht : t < 2) (hb : s.2 11 = 30 * (t : Int)) (hM : MOK s) (hT : TI (mst s) t) (hW : WM B m0 h s) (node : Int) : Cal d yMd_remove [aR m0, aI node] h (RV (some (aI (pk (hs (mst s) t node ∧ node ≠ 0) (((((mst s).2.2.2.1 t) : Nat) : Int) - kp (mst s) t node.toNat (((mst s).2.2.2.1 t))) 0))) (fun h2 => ∃ s', WM B m0 h2 s' ∧ MOK s' ∧ s'.2 11 = 30 * (t : Int) ∧ s'.2 26 = pk (hs (mst s) t node ∧ node ≠ 0) 0 1 ∧ ((hs (mst s) t node ∧ node ≠ 0) → DR (mst s) (mst s') t node.toNat ∧ pg s' = pg s ∧ s'.2 14 = s.2 14) ∧ (¬ (hs (mst s) t node ∧ node ≠ 0) → SE (mst s) (mst s') t))) := by
  have hcn := hM.2.1 t ht
  have hC : ((mst s).2.2.2.1 t) = (s.1 9 t).toNat := rfl
  show Go _ _ 0 [aR m0, aI node, none, none, none, none] [] _ _
  refine g_aload_n rfl rfl ?_
  refine g_aload_n rfl rfl ?_
  refine g_iload_n rfl rfl ?_
  refine g_V (z := yMd_isNode) (e := 1) (A := [aI node]) (rest := [aR m0]) (v := aI (pz (hs (mst s) t node))) (P := fun h2 => h2 = h) rfl rfl rfl rfl rfl rfl (by omega) hW.ob hW.b0 (m_isNode2 (by omega) ht hb hM hW _) ?_
  intro hh9 he9
  rw [he9]
  clear he9 hh9
  refine g_ifeq rfl rfl (fun c1 => ?_) (fun c1 => ?_)
  · skip
    have y1 := c1
    refine g_iconst (n := 1) rfl (by decide) ?_
    refine g_goto rfl rfl ?_
    refine g_iconst (n := 1) rfl (by decide) ?_
    have hno : ¬ (hs (mst s) t node ∧ node ≠ 0) := fun q => by first | exact q.2 y2 | exact pz_eq y1 q.1
    refine g_V (z := yMd_fails) (e := 1) (A := [aI 1, aI 1]) (rest := []) (v := aI 1)  rfl rfl rfl rfl rfl rfl (by omega) hW.ob hW.b0 (m_g hM hW 1 1 (by omega)) ?_
    intro hh2 hq
    obtain ⟨s1, hW, r1, r2, r26, hM1, rm⟩ := hq
    have hQ : QS s s1 := ⟨fun k _ _ => by rw [r1], fun k hk => r2 k (by omega)⟩
    refine g_ifeq rfl rfl (fun c => absurd c (by decide)) (fun c => ?_)
    refine g_iconst (n := 0) rfl (by decide) ?_
    exact r_i rfl rfl (pk_f hno).symm ⟨s1, hW, hM1, (r2 11 (by decide)).trans hb, by rw [r26, pk_f hno]; rfl, fun q => absurd q hno, fun _ => by rw [rm]; exact SE.rf _ _⟩
  · skip
    have y1 := c1
    refine g_iload_n rfl rfl ?_
    refine g_ifne rfl rfl (fun c4 => ?_) (fun c4 => ?_)
    · skip
      have y2 := c4
      refine g_iconst (n := 0) rfl (by decide) ?_
      refine g_iconst (n := 1) rfl (by decide) ?_
      have hyes : (hs (mst s) t node ∧ node ≠ 0) := ⟨pz_ne y1, y2⟩
      refine g_V (z := yMd_fails) (e := 1) (A := [aI 1, aI 0]) (rest := []) (v := aI 0)  rfl rfl rfl rfl rfl rfl (by omega) hW.ob hW.b0 (m_g hM hW 0 1 (by omega)) ?_
      intro hh5 hq
      obtain ⟨s1, hW, r1, r2, r26, hM1, rm⟩ := hq
      have hQ : QS s s1 := ⟨fun k _ _ => by rw [r1], fun k hk => r2 k (by omega)⟩
      refine g_ifeq rfl rfl (fun c => ?_) (fun c => absurd c (by decide))
      refine g_aload_n rfl rfl ?_
      have z1 := hyes.1.1
      have z2 := hyes.2
      obtain ⟨num, rfl⟩ : ∃ num : Nat, node = num := ⟨node.toNat, by omega⟩
      rw [Int.toNat_natCast]
      have hb1 : s1.2 11 = 30 * (t : Int) := (r2 11 (by decide)).trans hb
      have hT1 : TI (mst s1) t := by rw [rm]; exact hT
      obtain ⟨C, hCd⟩ : ∃ C : Nat, C = ((mst s1).2.2.2.1 t) := ⟨_, rfl⟩
      have hC2 : C = (s.1 9 t).toNat := by rw [hCd, rm]; rfl
      have hcc : s1.1 9 (s1.2 11 / 30).toNat = (C : Int) := by
        rw [r1, hb1, show (30 * (t : Int) / 30).toNat = t by omega]
        omega
      refine g_V (z := yMd_count) (e := 1) (A := []) (rest := []) (v := aI ((C : Int))) (P := fun h2 => h2 = hh5) rfl rfl rfl rfl rfl rfl (by omega) hW.ob hW.b0 ((by rw [← hcc]; exact m_count hM1 hW)) ?_
      intro hh9 he9
      rw [he9]
      clear he9 hh9
      refine g_istore_n (L' := [aR m0, aI ((num : Int)), aI ((C : Int)), none, none, none]) rfl rfl ?_
      refine g_iconst (n := 0) rfl (by decide) ?_
      refine g_istore_n (L' := [aR m0, aI ((num : Int)), aI ((C : Int)), aI 0, none, none]) rfl rfl ?_
      refine rv_loop1 (d := d) (B := B) (m0 := m0) (s1 := s1) (num := num) (C := C) (by omega) (fun h s2 hW R1 => ?_) C 0 _ s1 (by omega) hW ⟨⟨fun _ _ => rfl, rfl⟩, fun j hj => absurd hj (by omega)⟩
      refine g_iconst (n := 1) rfl (by decide) ?_
      refine g_istore_n (L' := [aR m0, aI ((num : Int)), aI ((C : Int)), aI 1, none, none]) rfl rfl ?_
      refine g_iload_n rfl rfl ?_
      refine g_ifeq rfl rfl (fun c => absurd c (by decide)) (fun c => ?_)
      refine g_iconst (n := 0) rfl (by decide) ?_
      refine g_istore_n (L' := [aR m0, aI ((num : Int)), aI ((C : Int)), aI 0, none, none]) rfl rfl ?_
      refine g_iconst (n := 1) rfl (by decide) ?_
      refine g_istore (L' := [aR m0, aI ((num : Int)), aI ((C : Int)), aI 0, aI 1, none]) rfl rfl ?_
      have hR2 : R2 s1 s2 t num C 1 := by
        refine ⟨R1.1, fun j hj => ?_, fun j hj hj2 => R1.2 j hj2⟩
        obtain rfl : j = 0 := by omega
        rw [R1.2 0 (by omega), pk_f (by omega), pk_f (fun q => by have := gn_0.mp q; omega)]
      refine rv_passA hT1 ht hb1 hCd (fun h s3 v3 v4 v5 hW R2 => ?_) (C - 1) 1 _ s2 0 _ (by omega) (by omega) hW hR2
      have hend : ∀ (v3 v4 : Int) (v5 : AV), v3 = 0 → Go d yMd_remove 63 [aR m0, aI (num : Int), aI (C : Int), aI v3, aI v4, v5] [] h (RV (some (aI (pk (hs (mst s) t (num : Int) ∧ (num : Int) ≠ 0) (((((mst s).2.2.2.1 t) : Nat) : Int) - kp (mst s) t num (((mst s).2.2.2.1 t))) 0))) (fun h2 => ∃ s', WM B m0 h2 s' ∧ MOK s' ∧ s'.2 11 = 30 * (t : Int) ∧ s'.2 26 = pk (hs (mst s) t (num : Int) ∧ (num : Int) ≠ 0) 0 1 ∧ ((hs (mst s) t (num : Int) ∧ (num : Int) ≠ 0) → DR (mst s) (mst s') t num ∧ pg s' = pg s ∧ s'.2 14 = s.2 14) ∧ (¬ (hs (mst s) t (num : Int) ∧ (num : Int) ≠ 0) → SE (mst s) (mst s') t))) := by
        intro v3 v4 v5 hv3
        subst hv3
        refine g_iload_n rfl rfl ?_
        refine g_ifeq rfl rfl (fun c => ?_) (fun c => absurd c (by decide))
        refine g_iconst (n := 0) rfl (by decide) ?_
        refine g_istore (L' := [aR m0, aI ((num : Int)), aI ((C : Int)), aI 0, aI 0, v5]) rfl rfl ?_
        refine g_iconst (n := 0) rfl (by decide) ?_
        refine g_istore (L' := [aR m0, aI ((num : Int)), aI ((C : Int)), aI 0, aI 0, aI 0]) rfl rfl ?_
        have hR3 : R3 s1 s3 t num C 0 := ⟨R2.1, fun j hj => absurd hj (by omega), fun j _ hj2 => R2.2.1 j hj2⟩
        refine rv_loop3 (d := d) (B := B) (m0 := m0) (s1 := s1) (t := t) (num := num) (C := C) (by omega) 0 (fun h s4 hW R3 => ?_) C 0 _ s3 (by omega) hW hR3
        refine g_iconst (n := 0) rfl (by decide) ?_
        refine g_istore (L' := [aR m0, aI ((num : Int)), aI ((C : Int)), aI 0, aI (((kp (mst s1) t num C : Nat) : Int)), aI 0]) rfl rfl ?_
        have hR4 : R4 s1 s4 t num C 0 := ⟨R3.1.2, R3.1.1 9 (by decide), fun a _ a2 => R3.1.1 a a2, R3.2.1, fun n _ => ⟨fun a a1 a8 => by rw [R3.1.1 a (by omega)], fun j _ => by rw [R3.1.1 10 (by decide)], fun j _ => by rw [R3.1.1 11 (by decide)]⟩, fun i hi => absurd hi (by omega), by rw [R3.1.1 3 (by decide), R3.1.1 7 (by decide)]; exact hM1.1⟩
        refine rv_loop4 (d := d) (B := B) (m0 := m0) (num := num) hT1 hM1 ht hb1 hCd 0 (fun h s5 hW R4 => ?_) (by omega) C 0 _ s4 (by omega) hW hR4
        refine g_aload_n rfl rfl ?_
        refine g_get (ci := 8) (kk := 8) rfl rfl hW.ob hW.b0 rfl ?_
        refine g_aload_n rfl rfl ?_
        refine g_get (ci := 8) (kk := 11) rfl rfl hW.ob hW.b0 rfl ?_
        rw [show s5.2 11 = 30 * (t : Int) from (by rw [R4.1]; exact hb1)]
        refine g_bipush (n := 30) rfl (by decide) ?_
        refine g_idiv (v := (t : Int)) rfl (by decide) ((a_div30 (by omega) (by omega)).trans (by omega)) ?_
        refine g_iload rfl rfl ?_
        refine g_iast rfl hW.a9 hW.bk (by omega) ?_
        generalize hg_hh1 : hput h (m0 + 9) (eA 0 2 (va_up (s5.1 9) ((t : Int)).toNat (((kp (mst s1) t num C : Nat) : Int)))) = hh1
        obtain ⟨s6, hW, q9, o9, p9⟩ := hW.st (k := 9) (i := ((t : Nat) : Int).toNat) (v := ((kp (mst s1) t num C : Nat) : Int)) (by omega) (by omega) (fun z => absurd z (by decide))
        rw [show (eA (mty 9) (mln 9) (va_up (s5.1 9) ((t : Nat) : Int).toNat ((kp (mst s1) t num C : Nat) : Int)) : AE) = eA 0 2 (va_up (s5.1 9) ((t : Nat) : Int).toNat ((kp (mst s1) t num C : Nat) : Int)) from rfl, hg_hh1] at hW
        rw [Int.toNat_natCast] at q9
        obtain ⟨u2, u9, u12, u20, un, um, ul⟩ := R4
        have hg0 : ¬ gn (mst s1) t num 0 := fun q => by have := gn_0.mp q; omega
        have hk1 : kp (mst s1) t num 0 < kp (mst s1) t num C := kp_lt hg0 (by omega)
        have hkC := kp_le (st := mst s1) (t := t) (num := num) C
        have hrl : ∀ n, n < 60 → 0 ≤ s6.1 3 n ∧ s6.1 3 n ≤ 100 ∧ 0 ≤ s6.1 7 n ∧ s6.1 7 n ≤ 2000 := by rw [o9 3 (by decide), o9 7 (by decide)]; exact ul
        have hM6 : MOK s6 := by
          refine ⟨hrl, fun v hv => ?_, by rw [p9, u2]; exact hM1.2.2.1, by rw [p9, u2]; exact hM1.2.2.2⟩
          rw [q9, u9]
          have hcv := hM1.2.1 v hv
          simp only [va_up]
          split <;> omega
        have hDR : DR (mst s1) (mst s6) t num := by
          refine ⟨?_, fun i hi hg => ?_⟩
          · show (s6.1 9 t).toNat = _
            rw [q9, ← hCd]
            simp [va_up]
          · have hi2 : i < C := by omega
            obtain ⟨⟨b1, b2, b3, b4, b5, b6, b7, b8⟩, bn, bb⟩ := um i hi2 hg
            have hkl := kp_lt (st := mst s1) (t := t) (num := num) hg hi2
            obtain ⟨x2, x8⟩ := rv_x hT1 hi
            have hli := hM1.1 (30 * t + i) (by omega)
            have hre : ∀ x : Int, x = -1 ∨ (0 ≤ x ∧ x < ((mst s1).2.2.2.1 t)) → rnv (nwR s1 t num) x = nwI (mst s1) t num x := fun x hx => by
              unfold rnv nwI
              by_cases e : x = -1
              · rw [if_pos e, if_neg (by omega)]
              · rw [if_neg e, if_pos (by omega)]
                rfl
            refine ⟨?_, ?_, ?_, ?_, ?_, ?_, ?_, ?_⟩
            · show s6.1 1 _ = _
              rw [o9 1 (by decide)]; exact b1
            · show s6.1 2 _ = _
              rw [o9 2 (by decide), show (mst s6).2.2.1 t (kp (mst s1) t num i) = 30 * t + kp (mst s1) t num i from rfl, b2, hre _ x2]; rfl
            · show s6.1 8 _ = _
              rw [o9 8 (by decide), show (mst s6).2.2.1 t (kp (mst s1) t num i) = 30 * t + kp (mst s1) t num i from rfl, b8, hre _ x8]; rfl
            · show s6.1 4 _ = _
              rw [o9 4 (by decide)]; exact b4
            · show s6.1 5 _ = _
              rw [o9 5 (by decide)]; exact b5
            · show s6.1 6 _ = _
              rw [o9 6 (by decide)]; exact b6
            · rw [mst_nm s6 ht (by omega), mst_nm s1 ht (by omega)]
              unfold nmM
              rw [o9 3 (by decide), o9 10 (by decide), b3]
              exact oF_ext fun j hj => bn j (by omega)
            · rw [mst_bd s6 ht (by omega), mst_bd s1 ht (by omega)]
              unfold bdM
              rw [o9 7 (by decide), o9 11 (by decide), b7]
              exact oF_ext fun j hj => bb j (by omega)
        have hpg : pg s6 = pg s := by
          unfold pg
          rw [o9 12 (by decide), p9, u2, u12 12 (by omega) (by omega), r1, r2 13 (by decide)]
        rw [rm] at hDR hCd
        refine g_iload_n rfl rfl ?_
        refine g_iload rfl rfl ?_
        refine g_isub rfl (by omega) ?_
        exact r_i rfl rfl (by rw [pk_t hyes, ← hCd, ← rm]) ⟨s6, hW, hM6, by rw [p9, u2]; exact hb1, by rw [p9, u2, r26, pk_t hyes]; rfl, fun _ => ⟨hDR, hpg, by rw [p9, u2]; exact r2 14 (by decide)⟩, fun q => absurd hyes q⟩
      by_cases hv3 : v3 = 0
      · exact hend v3 v4 v5 hv3
      · skip
        refine g_iload_n rfl rfl ?_
        refine g_ifeq rfl rfl (fun c => absurd c (by omega)) (fun c1 => ?_)
        refine g_iconst (n := 0) rfl (by decide) ?_
        refine g_istore_n (L' := [aR m0, aI ((num : Int)), aI ((C : Int)), aI 0, aI v4, v5]) rfl rfl ?_
        refine g_iconst (n := 1) rfl (by decide) ?_
        refine g_istore (L' := [aR m0, aI ((num : Int)), aI ((C : Int)), aI 0, aI 1, v5]) rfl rfl ?_
        exact rv_passB hT1 ht hb1 hCd hW R2 (fun v4 v5 => hend 0 v4 v5 rfl) (C - 1) 1 _ (by omega) (by omega)
    · skip
      have y2 := c4
      refine g_iconst (n := 1) rfl (by decide) ?_
      refine g_goto rfl rfl ?_
      refine g_iconst (n := 1) rfl (by decide) ?_
      have hno : ¬ (hs (mst s) t node ∧ node ≠ 0) := fun q => by first | exact q.2 y2 | exact pz_eq y1 q.1
      refine g_V (z := yMd_fails) (e := 1) (A := [aI 1, aI 1]) (rest := []) (v := aI 1)  rfl rfl rfl rfl rfl rfl (by omega) hW.ob hW.b0 (m_g hM hW 1 1 (by omega)) ?_
      intro hh7 hq
      obtain ⟨s1, hW, r1, r2, r26, hM1, rm⟩ := hq
      have hQ : QS s s1 := ⟨fun k _ _ => by rw [r1], fun k hk => r2 k (by omega)⟩
      refine g_ifeq rfl rfl (fun c => absurd c (by decide)) (fun c => ?_)
      refine g_iconst (n := 0) rfl (by decide) ?_
      exact r_i rfl rfl (pk_f hno).symm ⟨s1, hW, hM1, (r2 11 (by decide)).trans hb, by rw [r26, pk_f hno]; rfl, fun q => absurd q hno, fun _ => by rw [rm]; exact SE.rf _ _⟩
end Md25
