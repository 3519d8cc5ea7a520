/-! Reader: texts, marks, numbers, kinds, targets, contents. -/
def tx (l : List Int) (f : Int) : Nat → Nat
  | 0 => 0
  | m + 1 => if 0 < rat l f then tx l (f + 1) m + 1 else 0
theorem tx_le (l : List Int) : ∀ (m : Nat) (f : Int), tx l f m ≤ m := by
  intro m
  induction m with
  | zero => intro f; exact Nat.le_refl _
  | succ m ih =>
    intro f
    unfold tx
    split
    · have := ih (f + 1)
      omega
    · omega
def mrR (l : List Int) (f : Int) : Prop := (∀ j : Nat, j < 8 → rat l (f + 257 + j) = mkf j) ∧ zrs l (f + 265) (f + 329) ∧ zrs l (f + 500) (f + 512)
def numR (l : List Int) (f : Int) : Prop := octv l (f + 100) 7 ≠ -1 ∧ octv l (f + 100) 7 ≤ 4095 ∧ octv l (f + 108) 7 ≠ -1 ∧ octv l (f + 124) 11 ≠ -1 ∧ octv l (f + 136) 11 ≠ -1 ∧ octv l (f + 136) 11 ≤ 2147483647 ∧ octv l (f + 116) 7 ≠ -1 ∧ octv l (f + 329) 7 ≠ -1 ∧ octv l (f + 337) 7 ≠ -1
def kndR (l : List Int) (f : Int) : Int := kndT (rat l (f + 156))
def kokR (l : List Int) (f n : Int) : Prop := kndR l f ≠ -1 ∧ (kndR l f = 1 ∨ n = 0)
def tgR (l : List Int) (f : Int) : List Int := cps l (f + 157) (f + 157 + tx l (f + 157) 100)
noncomputable def flR (st : CS) (t : Nat) (l : List Int) (f : Int) (k : Int) : Int := if k = 3 then lkl st t (tgR l f) (tgR l f).length ((tgR l f).length + 1) 0 0 0 else -1
def tokR (st : CS) (t : Nat) (l : List Int) (f k : Int) : Prop := zrs l (f + 157 + tx l (f + 157) 100) (f + 157 + 100) ∧ (k = 2 → tgt (tgR l f)) ∧ (k = 3 → isK st t (flR st t l f k) 1) ∧ (k ≠ 2 → k ≠ 3 → (tgR l f).length = 0)
noncomputable def fcR (l : List Int) (b n : Int) : Int := if (l.length : Int) / 512 ≤ b + (n + 511) / 512 then 10 else @ite Int (zrs l (b * 512 + 512 + n) (b * 512 + 512 + (n + 511) / 512 * 512)) (Classical.propDecidable _) 0 11
def rT (st : CS) (P T : List Int) (e0 e1 e2 e3 e4 e5 e6 e7 e8 e9 e10 : Int) : CS := (fun r => if r = 123 then P else if r = 124 then T else st.1 r, st.2.1, st.2.2.1, st.2.2.2.1, st.2.2.2.2.1, fun k => if k < 13 then st.2.2.2.2.2 k else if k = 13 then e0 else if k = 14 then e1 else if k = 15 then e2 else if k = 16 then e3 else if k = 17 then e4 else if k = 18 then e5 else if k = 19 then e6 else if k = 20 then e7 else if k = 21 then e8 else if k = 22 then e9 else if k = 23 then e10 else st.2.2.2.2.2 k)
section ReaderC
variable {K : KE} {h : AH} {g : Nat → Nat} {st : CS} {cb sb : Nat} {d t : Nat} {P T : List Int} {e0 e1 e2 e3 e4 e5 e6 e7 e8 e9 e10 : Int}
theorem rT_R3 (P' : List Int) : uR (rT st P T e0 e1 e2 e3 e4 e5 e6 e7 e8 e9 e10) 123 P' = (rT st P' T e0 e1 e2 e3 e4 e5 e6 e7 e8 e9 e10) := by
  refine Prod.ext ?_ rfl
  funext r
  show va_up (fun r => if r = 123 then P else if r = 124 then T else st.1 r) 123 P' r = if r = 123 then P' else if r = 124 then T else st.1 r
  unfold va_up
  by_cases h : r = 123 <;> simp [h]
theorem rT_R4 (T' : List Int) : uR (rT st P T e0 e1 e2 e3 e4 e5 e6 e7 e8 e9 e10) 124 T' = (rT st P T' e0 e1 e2 e3 e4 e5 e6 e7 e8 e9 e10) := by
  refine Prod.ext ?_ rfl
  funext r
  show va_up (fun r => if r = 123 then P else if r = 124 then T else st.1 r) 124 T' r = if r = 123 then P else if r = 124 then T' else st.1 r
  unfold va_up
  by_cases h : r = 124
  · simp [h]
  · by_cases h1 : r = 123 <;> simp [h, h1]
theorem rT_self (st : CS) : rT st (st.1 123) (st.1 124) (st.2.2.2.2.2 13) (st.2.2.2.2.2 14) (st.2.2.2.2.2 15) (st.2.2.2.2.2 16) (st.2.2.2.2.2 17) (st.2.2.2.2.2 18) (st.2.2.2.2.2 19) (st.2.2.2.2.2 20) (st.2.2.2.2.2 21) (st.2.2.2.2.2 22) (st.2.2.2.2.2 23) = st := by
  have e1 : (fun r => if r = 123 then st.1 123 else if r = 124 then st.1 124 else st.1 r) = st.1 := by
    funext r
    by_cases h : r = 123
    · simp [h]
    · by_cases h2 : r = 124
      · simp [h2]
      · simp [h, h2]
  unfold rT
  rw [e1]
  congr 5
  funext k
  by_cases h0 : k < 13
  · rw [if_pos h0]
  rw [if_neg h0]
  by_cases h13 : k = 13
  · rw [if_pos h13, h13]
  rw [if_neg h13]
  by_cases h14 : k = 14
  · rw [if_pos h14, h14]
  rw [if_neg h14]
  by_cases h15 : k = 15
  · rw [if_pos h15, h15]
  rw [if_neg h15]
  by_cases h16 : k = 16
  · rw [if_pos h16, h16]
  rw [if_neg h16]
  by_cases h17 : k = 17
  · rw [if_pos h17, h17]
  rw [if_neg h17]
  by_cases h18 : k = 18
  · rw [if_pos h18, h18]
  rw [if_neg h18]
  by_cases h19 : k = 19
  · rw [if_pos h19, h19]
  rw [if_neg h19]
  by_cases h20 : k = 20
  · rw [if_pos h20, h20]
  rw [if_neg h20]
  by_cases h21 : k = 21
  · rw [if_pos h21, h21]
  rw [if_neg h21]
  by_cases h22 : k = 22
  · rw [if_pos h22, h22]
  rw [if_neg h22]
  by_cases h23 : k = 23
  · rw [if_pos h23, h23]
  rw [if_neg h23]
theorem rT_vq (hs : shp st) (ht : t < 2) : VQ st (rT st P T e0 e1 e2 e3 e4 e5 e6 e7 e8 e9 e10) t := by
  refine ⟨rfl, fun i hi => ⟨fun k _ => rfl, ?_, ?_⟩⟩
  · have := hs.1 t i ht (by have := (hs.2.2.1 t ht).2; omega)
    show (if 2 * st.2.2.1 t i = 123 then P else if 2 * st.2.2.1 t i = 124 then T else st.1 (2 * st.2.2.1 t i)) = _
    rw [if_neg (by omega), if_neg (by omega)]
  · have := hs.1 t i ht (by have := (hs.2.2.1 t ht).2; omega)
    show (if 2 * st.2.2.1 t i + 1 = 123 then P else if 2 * st.2.2.1 t i + 1 = 124 then T else st.1 (2 * st.2.2.1 t i + 1)) = _
    rw [if_neg (by omega), if_neg (by omega)]
theorem WC.rd (hW : WC K h g st cb sb) : h.1 (g 532) = some (eO 1 [aR (g 530), aR (g 123), aR (g 124), aI (st.2.2.2.2.2 13), aI (st.2.2.2.2.2 14), aL (st.2.2.2.2.2 15), aL (st.2.2.2.2.2 16), aL (st.2.2.2.2.2 17), aL (st.2.2.2.2.2 18), aI (st.2.2.2.2.2 19), aI (st.2.2.2.2.2 20), aI (st.2.2.2.2.2 21), aI (st.2.2.2.2.2 22), aI (st.2.2.2.2.2 23)]) := hW.obj dm_532 (by omega)
theorem WC.rdb (hW : WC K h g st cb sb) : h.2.2.2.1 ≤ g 532 := hW.objb dm_532 (by omega)
theorem rT_rd (hW : WC K h g (rT st P T e0 e1 e2 e3 e4 e5 e6 e7 e8 e9 e10) cb sb) : h.1 (g 532) = some (eO 1 [aR (g 530), aR (g 123), aR (g 124), aI e0, aI e1, aL e2, aL e3, aL e4, aL e5, aI e6, aI e7, aI e8, aI e9, aI e10]) := hW.rd
theorem rT_r1 (hW : WC K h g (rT st P T e0 e1 e2 e3 e4 e5 e6 e7 e8 e9 e10) cb sb) : h.1 (g 121) = some (eO 2 [aR (hW.choose 121).1, aI ((st.1 121).length : Int)]) := hW.row (by omega)
theorem rT_r3 (hW : WC K h g (rT st P T e0 e1 e2 e3 e4 e5 e6 e7 e8 e9 e10) cb sb) : h.1 (g 123) = some (eO 2 [aR (hW.choose 123).1, aI (P.length : Int)]) := hW.row (by omega)
theorem rT_r4 (hW : WC K h g (rT st P T e0 e1 e2 e3 e4 e5 e6 e7 e8 e9 e10) cb sb) : h.1 (g 124) = some (eO 2 [aR (hW.choose 124).1, aI (T.length : Int)]) := hW.row (by omega)
theorem rT_tree (hW : WC K h g (rT st P T e0 e1 e2 e3 e4 e5 e6 e7 e8 e9 e10) cb sb) (ht : t < 2) : h.1 (g (500 + t)) = some (eO 4 [aR (g (510 + t)), aI ((st.2.2.2.1 t)), aR (g (520 + t))]) := hW.tree ht
theorem rT_arr (hW : WC K h g (rT st P T e0 e1 e2 e3 e4 e5 e6 e7 e8 e9 e10) cb sb) (ht : t < 2) : h.1 (g (510 + t)) = some (eQ 3 30 (nar g (st.2.2.1 t))) := hW.arr ht
theorem rT_shp (hW : WC K h g (rT st P T e0 e1 e2 e3 e4 e5 e6 e7 e8 e9 e10) cb sb) : shp st := by
  obtain ⟨q1, q2, q3, q4⟩ := hW.shq
  exact ⟨q1, q2, q3, q4⟩
theorem rT_set (hW : WC K h g (rT st P T e0 e1 e2 e3 e4 e5 e6 e7 e8 e9 e10) cb sb) (f0 f1 f2 f3 f4 f5 f6 f7 f8 f9 f10 : Int) : WC K (hput h (g 532) (eO 1 [aR (g 530), aR (g 123), aR (g 124), aI f0, aI f1, aL f2, aL f3, aL f4, aL f5, aI f6, aI f7, aI f8, aI f9, aI f10])) g (rT st P T f0 f1 f2 f3 f4 f5 f6 f7 f8 f9 f10) cb sb := by
  refine hW.set (c0 := 532) dm_532 (by omega) rfl rfl (fun c hc h3 hne => ?_) ?_
  · by_cases h4 : c < 531
    · unfold cel
      simp only [if_neg (show ¬ c < 125 by omega), if_neg (show ¬ c < 325 by omega)]
      by_cases h5 : c < 460
      · simp only [if_pos h5]; rfl
      · simp only [if_neg h5]
        by_cases h6 : c < 502
        · simp only [if_pos h6]; rfl
        · simp only [if_neg h6]
          by_cases h7 : c < 512
          · simp only [if_pos h7]; rfl
          · simp only [if_neg h7]
            by_cases h8 : c < 522
            · simp only [if_pos h8]; rfl
            · have h9 : c = 530 := by rcases hc with h | h | h | h <;> omega
              simp only [if_neg h8, if_pos h9]
    · rcases (by rcases hc with h | h | h | h <;> omega : c = 531 ∨ c = 533) with q | q <;> subst q <;> rfl
  · obtain ⟨q1, q2, q3, q4⟩ := hW.shq
    exact ⟨q1, q2, q3, q4⟩
theorem tx_loop {Q : AO → AH → Prop} {r : Nat} (hW : WC K h g st cb sb) (f E : Int) (m : Nat) (hf : 0 ≤ f) (hf2 : f + m ≤ 20000) (kk : Go (d + 2) yRd_addText 32 [aR (g 532), aR (g r), aI f, aI (m : Int), aI E, none, none] [] h Q) : ∀ (n i : Nat), i + n = m → f + i + tx (st.1 121) (f + i) n = E → Go (d + 2) yRd_addText 3 [aR (g 532), aR (g r), aI f, aI (m : Int), aI (f + i), none, none] [] h Q := by
  intro n
  induction n with
  | zero =>
    intro i hi hE
    have hE2 : f + i = E := by rw [← hE]; show f + i = f + i + ((0 : Nat) : Int); omega
    rw [hE2]
    refine g_iload rfl rfl ?_
    refine g_iload_n rfl rfl ?_
    refine g_iload_n rfl rfl ?_
    refine g_iadd rfl (by omega) ?_
    refine g_icmpge rfl rfl (fun c1 => ?_) (fun c => absurd c (by omega))
    exact kk
  | succ n ih =>
    intro i hi hE
    rw [show tx (st.1 121) (f + i) (n + 1) = if 0 < rat (st.1 121) (f + i) then tx (st.1 121) (f + i + 1) n + 1 else 0 from rfl] at hE
    refine g_iload rfl rfl ?_
    refine g_iload_n rfl rfl ?_
    refine g_iload_n rfl rfl ?_
    refine g_iadd rfl (by omega) ?_
    refine g_icmpge rfl rfl (fun c => absurd c (by omega)) (fun c1 => ?_)
    refine g_aload_n rfl rfl ?_
    refine g_get (ci := 1) (kk := 0) rfl rfl hW.rd hW.rdb rfl ?_
    refine g_get (ci := 3) (kk := 0) rfl rfl hW.tape hW.tapeb rfl ?_
    refine g_iload rfl rfl ?_
    refine g_V (z := yRw_at) (e := 1) (A := [aI (f + (i : Int))]) (rest := []) (v := aI (rat (st.1 121) (f + (i : Int)))) (P := fun h2 => h2 = h) rfl rfl rfl rfl rfl rfl (by omega) (hW.row (by omega)) (hW.rowb (by omega)) (c_at hW (r := 121) (by omega) _) ?_
    intro hh9 he9
    rw [he9]
    clear he9 hh9
    refine g_ifle rfl rfl (fun c2 => ?_) (fun c2 => ?_)
    · skip
      rw [if_neg (by omega)] at hE
      have hE2 : f + i = E := by omega
      rw [hE2]
      exact kk
    · skip
      rw [if_pos (by omega)] at hE
      refine g_iinc (L' := [aR (g 532), aR (g r), aI f, aI ((m : Int)), aI (f + (i : Int) + 1), none, none]) rfl rfl (by omega) rfl ?_
      refine g_goto rfl rfl ?_
      have h9 := ih (i + 1) (by omega) (by rw [← hE]; rw [show f + ((i + 1 : Nat) : Int) = f + i + 1 by omega]; omega)
      rw [show f + ((i + 1 : Nat) : Int) = f + i + 1 by omega] at h9
      exact h9
def axF (l row : List Int) (f : Int) (n : Nat) (i : Int) : List Int := oF (row.length + n) (fun j => if row.length ≤ j ∧ (j : Int) < row.length + i then l.getD (f + (j - row.length)).toNat 0 else row.getD j 0)
theorem axF_s {l row : List Int} {f : Int} {n : Nat} {i : Int} (hf : 0 ≤ f) (hi : 0 ≤ i) (h1 : i < n) (hl : f + i < l.length) (h8 : rowR8 l) : rput (axF l row f n i) (row.length + (f + i) - f) (rat l (f + i)) = axF l row f n (i + 1) := by
  unfold axF
  rw [rput_oF (by omega) (by omega), rat_in (by omega) hl, a8_mod256 (getD_r8 h8 _)]
  refine oF_ext fun j hj => ?_
  unfold va_up
  by_cases e : j = ((row.length : Int) + (f + i) - f).toNat
  · rw [if_pos e, if_pos (by omega)]
    congr 1
    omega
  · rw [if_neg e]
    dsimp only
    by_cases e2 : row.length ≤ j ∧ (j : Int) < row.length + i
    · rw [if_pos e2, if_pos (by omega)]
    · rw [if_neg e2, if_neg (by omega)]
theorem axF_0 (l row : List Int) (f : Int) (n : Nat) (hn : row.length + n ≤ 10240) : rsz row (row.length + (f + n) - f) = axF l row f n 0 := by
  rw [rsz_oF _ (by omega) (by omega), show ((row.length : Int) + (f + n) - f).toNat = row.length + n by omega]
  refine oF_ext fun j hj => ?_
  rw [if_neg (by omega)]
theorem cps_len (m : List Int) (f t : Int) : (cps m f t).length = (t - f).toNat := oF_len _ _
theorem cps_get {m : List Int} {f t : Int} {j : Nat} (h : j < (t - f).toNat) : (cps m f t).getD j 0 = m.getD (f.toNat + j) 0 := oF_get h
theorem axF_n {l row : List Int} {f : Int} {n : Nat} (hf : 0 ≤ f) : axF l row f n n = row ++ cps l f (f + n) := by
  have e : (cps l f (f + n)).length = n := by rw [cps_len]; omega
  refine li_ext (by unfold axF; rw [oF_len, List.length_append, e]) (fun j hj => ?_)
  unfold axF at hj ⊢
  rw [oF_len] at hj
  rw [oF_get hj, getD_app]
  by_cases q : j < row.length
  · rw [if_neg (by omega), if_pos q]
  · rw [if_pos (by omega), if_neg q, cps_get (by omega)]
    congr 1
    omega
theorem ax_loop {r : Nat} (hr : r < 125) (hne : r ≠ 121) (f : Int) (m n : Nat) (row : List Int) (V : Int) (hf : 0 ≤ f) (hn : row.length + n ≤ 10240) (hnm : n ≤ m) (hm : f + m ≤ (st.1 121).length) (hV : V = pz (zrs (st.1 121) (f + n) (f + m))) (h8 : rowR8 (st.1 121)) (hl2 : (st.1 121).length ≤ 10240) : ∀ (q i : Nat) (h : AH), i + q = n → WC K h g (uR st r (axF (st.1 121) row f n i)) cb sb → Go (d + 2) yRd_addText 52 [aR (g 532), aR (g r), aI f, aI (m : Int), aI (f + n), aI (row.length : Int), aI (f + i)] [] h (RV (some (aI V)) (fun h2 => WC K h2 g (uR st r (row ++ cps (st.1 121) f (f + n))) cb sb)) := by
  subst hV
  intro q
  induction q with
  | zero =>
    intro i h hi hW
    obtain rfl : i = n := by omega
    rw [axF_n hf] at hW
    have e1 : (uR st r (row ++ cps (st.1 121) f (f + (i : Int)))).1 121 = st.1 121 := uR_ne _ _ (fun q => hne q.symm)
    rw [← e1]
    refine g_iload rfl rfl ?_
    refine g_iload rfl rfl ?_
    refine g_icmpge rfl rfl (fun c1 => ?_) (fun c => absurd c (by omega))
    refine g_aload_n rfl rfl ?_
    refine g_get (ci := 1) (kk := 0) rfl rfl hW.rd hW.rdb rfl ?_
    refine g_iload rfl rfl ?_
    refine g_iload_n rfl rfl ?_
    refine g_iload_n rfl rfl ?_
    refine g_iadd rfl (by omega) ?_
    refine g_V (z := yTp_isZeros) (e := 1) (A := [aI (f + ((m : Int))), aI (f + (i : Int))]) (rest := []) (v := aI (pz (zrs ((uR st r (row ++ cps (st.1 121) f (f + (i : Int)))).1 121) (f + (i : Int)) (f + (m : Int))))) (P := fun h2 => h2 = h) rfl rfl rfl rfl rfl rfl (by omega) hW.tape hW.tapeb (c_isZeros (by omega) hW _ _ (by omega) (by omega)) ?_
    intro hh9 he9
    rw [he9]
    clear he9 hh9
    exact r_z rfl rfl (pz01 _) rfl (by rw [e1]; exact hW)
  | succ q ih =>
    intro i h hi hW
    have e1 : (uR st r (axF (st.1 121) row f n i)).1 121 = st.1 121 := uR_ne _ _ (fun q => hne q.symm)
    refine g_iload rfl rfl ?_
    refine g_iload rfl rfl ?_
    refine g_icmpge rfl rfl (fun c => absurd c (by omega)) (fun c1 => ?_)
    refine g_aload_n rfl rfl ?_
    refine g_iload rfl rfl ?_
    refine g_iload rfl rfl ?_
    refine g_iadd rfl (by omega) ?_
    refine g_iload_n rfl rfl ?_
    refine g_isub rfl (by omega) ?_
    refine g_aload_n rfl rfl ?_
    refine g_get (ci := 1) (kk := 0) rfl rfl hW.rd hW.rdb rfl ?_
    refine g_get (ci := 3) (kk := 0) rfl rfl hW.tape hW.tapeb rfl ?_
    refine g_iload rfl rfl ?_
    refine g_V (z := yRw_at) (e := 1) (A := [aI (f + (i : Int))]) (rest := [aI ((((row.length : Int)) + (f + (i : Int))) - f), aR (g r)]) (v := aI (rat (st.1 121) (f + (i : Int)))) (P := fun h2 => h2 = h) rfl rfl rfl rfl rfl rfl (by omega) (hW.row (by omega)) (hW.rowb (by omega)) (e1 ▸ c_at hW (r := 121) (by omega) (f + (i : Int))) ?_
    intro hh9 he9
    rw [he9]
    clear he9 hh9
    refine g_Vn (z := yRw_put) (e := 1) (A := [aI (rat (st.1 121) (f + (i : Int))), aI ((((row.length : Int)) + (f + (i : Int))) - f)]) (rest := [])  rfl rfl rfl rfl rfl rfl (by omega) (hW.row hr) (hW.rowb hr) (c_put hW hr _ _) ?_
    intro hh2 hW
    have hW : WC K hh2 g (uR st r (axF (st.1 121) row f n ((i + 1 : Nat) : Int))) cb sb := by
      rw [uR_uR, uR_get, axF_s hf (by omega) (by omega) (by omega) h8] at hW
      exact hW
    refine g_iinc (L' := [aR (g 532), aR (g r), aI f, aI ((m : Int)), aI (f + (n : Int)), aI ((row.length : Int)), aI (f + (i : Int) + 1)]) rfl rfl (by omega) rfl ?_
    refine g_goto rfl rfl ?_
    have h9 := ih (i + 1) _ (by omega) hW
    rw [show f + ((i + 1 : Nat) : Int) = f + i + 1 by omega] at h9
    exact h9
theorem c_addText {r : Nat} (hd2 : 2 ≤ d) (hW : WC K h g st cb sb) (hr : r < 125) (hne : r ≠ 121) (f : Int) (m : Nat) (hf : 0 ≤ f) (hm : f + m ≤ (st.1 121).length) (hrl : (st.1 r).length + m ≤ 10240) : Cal d yRd_addText [aR (g 532), aR (g r), aI f, aI (m : Int)] h (RV (some (aI (pz (zrs (st.1 121) (f + tx (st.1 121) f m) (f + m))))) (fun h2 => WC K h2 g (uR st r (st.1 r ++ cps (st.1 121) f (f + tx (st.1 121) f m))) cb sb)) := by
  obtain ⟨d, rfl⟩ : ∃ e, d = e + 2 := ⟨d - 2, by omega⟩
  have hl := hW.len (r := 121) (by omega)
  have ht := tx_le (st.1 121) m f
  have h8 : rowR8 (st.1 121) := hW.r8 (by omega)
  show Go _ _ 0 [aR (g 532), aR (g r), aI f, aI (m : Int), none, none, none] [] _ _
  refine g_iload_n rfl rfl ?_
  refine g_istore (L' := [aR (g 532), aR (g r), aI f, aI ((m : Int)), aI f, none, none]) rfl rfl ?_
  have h9 := fun Q kk => tx_loop (Q := Q) (d := d) (r := r) hW f (f + tx (st.1 121) f m) m hf (by omega) kk m 0 (by omega) (by simp)
  rw [show f + ((0 : Nat) : Int) = f by omega] at h9
  refine h9 _ ?_
  clear h9
  refine g_aload_n rfl rfl ?_
  refine g_get (ci := 2) (kk := 1) rfl rfl (hW.row hr) (hW.rowb hr) rfl ?_
  refine g_istore (L' := [aR (g 532), aR (g r), aI f, aI ((m : Int)), aI (f + (tx (st.1 121) f m : Int)), aI (((st.1 r).length : Int)), none]) rfl rfl ?_
  refine g_aload_n rfl rfl ?_
  refine g_iload rfl rfl ?_
  refine g_iload rfl rfl ?_
  refine g_iadd rfl (by omega) ?_
  refine g_iload_n rfl rfl ?_
  refine g_isub rfl (by omega) ?_
  refine g_Vn (z := yRw_resize) (e := 1) (A := [aI (((((st.1 r).length : Int)) + (f + (tx (st.1 121) f m : Int))) - f)]) (rest := [])  rfl rfl rfl rfl rfl rfl (by omega) (hW.row hr) (hW.rowb hr) (c_resize (by omega) hW hr _) ?_
  intro hh1 hW
  rw [axF_0 (st.1 121) _ _ _ (by omega)] at hW
  refine g_iload_n rfl rfl ?_
  refine g_istore (L' := [aR (g 532), aR (g r), aI f, aI ((m : Int)), aI (f + (tx (st.1 121) f m : Int)), aI (((st.1 r).length : Int)), aI f]) rfl rfl ?_
  have h9 := ax_loop (d := d) hr hne f m (tx (st.1 121) f m) (st.1 r) _ hf (by omega) (by omega) hm rfl h8 hl (tx (st.1 121) f m) 0 _ (by omega) hW
  rw [show f + ((0 : Nat) : Int) = f by omega] at h9
  exact h9
theorem c_isMarked (hd2 : 2 ≤ d) (hK : KOK K) (hW : WC K h g (rT st P T e0 e1 e2 e3 e4 e5 e6 e7 e8 e9 e10) cb sb) (hf : 0 ≤ e1) (hf2 : e1 ≤ 20000) : Cal d yRd_isMarked [aR (g 532)] h (RV (some (aI (pz (mrR (st.1 121) e1)))) (fun h2 => h2 = h)) := by
  show Go _ _ 0 [aR (g 532)] [] _ _
  refine g_aload_n rfl rfl ?_
  refine g_get (ci := 1) (kk := 0) rfl rfl (rT_rd hW) hW.rdb rfl ?_
  refine g_aload_n rfl rfl ?_
  refine g_get (ci := 1) (kk := 4) rfl rfl (rT_rd hW) hW.rdb rfl ?_
  refine g_sipush (n := 257) rfl (by decide) ?_
  refine g_iadd rfl (by omega) ?_
  refine g_V (z := yTp_hasMark) (e := 1) (A := [aI (e1 + 257)]) (rest := []) (v := aI (pz (∀ j : Nat, j < 8 → rat (st.1 121) (e1 + 257 + j) = mkf j))) (P := fun h2 => h2 = h) rfl rfl rfl rfl rfl rfl (by omega) hW.tape hW.tapeb (c_hasMark (by omega) hK hW _ (by omega) (by omega)) ?_
  intro hh9 he9
  rw [he9]
  clear he9 hh9
  refine g_ifeq rfl rfl (fun c1 => ?_) (fun c1 => ?_)
  · skip
    refine g_iconst (n := 0) rfl (by decide) ?_
    exact r_z rfl rfl (by decide) (pz_f (fun q => by first | exact pz_eq c3 q.2.2 | exact pz_eq c2 q.2.1 | exact pz_eq c1 q.1)).symm rfl
  · skip
    refine g_aload_n rfl rfl ?_
    refine g_get (ci := 1) (kk := 0) rfl rfl (rT_rd hW) hW.rdb rfl ?_
    refine g_aload_n rfl rfl ?_
    refine g_get (ci := 1) (kk := 4) rfl rfl (rT_rd hW) hW.rdb rfl ?_
    refine g_sipush (n := 265) rfl (by decide) ?_
    refine g_iadd rfl (by omega) ?_
    refine g_aload_n rfl rfl ?_
    refine g_get (ci := 1) (kk := 4) rfl rfl (rT_rd hW) hW.rdb rfl ?_
    refine g_sipush (n := 329) rfl (by decide) ?_
    refine g_iadd rfl (by omega) ?_
    refine g_V (z := yTp_isZeros) (e := 1) (A := [aI (e1 + 329), aI (e1 + 265)]) (rest := []) (v := aI (pz (zrs (st.1 121) (e1 + 265) (e1 + 329)))) (P := fun h2 => h2 = h) rfl rfl rfl rfl rfl rfl (by omega) hW.tape hW.tapeb (c_isZeros (by omega) hW _ _ (by omega) (by omega)) ?_
    intro hh9 he9
    rw [he9]
    clear he9 hh9
    refine g_ifeq rfl rfl (fun c2 => ?_) (fun c2 => ?_)
    · skip
      refine g_iconst (n := 0) rfl (by decide) ?_
      exact r_z rfl rfl (by decide) (pz_f (fun q => by first | exact pz_eq c3 q.2.2 | exact pz_eq c2 q.2.1 | exact pz_eq c1 q.1)).symm rfl
    · skip
      refine g_aload_n rfl rfl ?_
      refine g_get (ci := 1) (kk := 0) rfl rfl (rT_rd hW) hW.rdb rfl ?_
      refine g_aload_n rfl rfl ?_
      refine g_get (ci := 1) (kk := 4) rfl rfl (rT_rd hW) hW.rdb rfl ?_
      refine g_sipush (n := 500) rfl (by decide) ?_
      refine g_iadd rfl (by omega) ?_
      refine g_aload_n rfl rfl ?_
      refine g_get (ci := 1) (kk := 4) rfl rfl (rT_rd hW) hW.rdb rfl ?_
      refine g_sipush (n := 512) rfl (by decide) ?_
      refine g_iadd rfl (by omega) ?_
      refine g_V (z := yTp_isZeros) (e := 1) (A := [aI (e1 + 512), aI (e1 + 500)]) (rest := []) (v := aI (pz (zrs (st.1 121) (e1 + 500) (e1 + 512)))) (P := fun h2 => h2 = h) rfl rfl rfl rfl rfl rfl (by omega) hW.tape hW.tapeb (c_isZeros (by omega) hW _ _ (by omega) (by omega)) ?_
      intro hh9 he9
      rw [he9]
      clear he9 hh9
      refine g_ifeq rfl rfl (fun c3 => ?_) (fun c3 => ?_)
      · skip
        refine g_iconst (n := 0) rfl (by decide) ?_
        exact r_z rfl rfl (by decide) (pz_f (fun q => by first | exact pz_eq c3 q.2.2 | exact pz_eq c2 q.2.1 | exact pz_eq c1 q.1)).symm rfl
      · skip
        refine g_iconst (n := 1) rfl (by decide) ?_
        refine g_goto rfl rfl ?_
        exact r_z rfl rfl (by decide) (pz_t ⟨pz_ne c1, pz_ne c2, pz_ne c3⟩).symm rfl
theorem c_takeNumbers (hd2 : 2 ≤ d) (hW : WC K h g (rT st P T e0 e1 e2 e3 e4 e5 e6 e7 e8 e9 e10) cb sb) (hf : 0 ≤ e1) (hf2 : e1 ≤ 20000) : Cal d yRd_takeNumbers [aR (g 532)] h (RV (some (aI (pz (numR (st.1 121) e1)))) (fun h2 => WC K h2 g (rT st P T e0 e1 ((octv (st.1 121) (e1 + 100) 7)) ((octv (st.1 121) (e1 + 108) 7)) ((octv (st.1 121) (e1 + 136) 11)) ((octv (st.1 121) (e1 + 124) 11)) e6 e7 e8 e9 e10) cb sb)) := by
  show Go _ _ 0 [aR (g 532)] [] _ _
  refine g_aload_n rfl rfl ?_
  refine g_aload_n rfl rfl ?_
  refine g_get (ci := 1) (kk := 0) rfl rfl (rT_rd hW) hW.rdb rfl ?_
  refine g_aload_n rfl rfl ?_
  refine g_get (ci := 1) (kk := 4) rfl rfl (rT_rd hW) hW.rdb rfl ?_
  refine g_bipush (n := 100) rfl (by decide) ?_
  refine g_iadd rfl (by omega) ?_
  refine g_bipush (n := 7) rfl (by decide) ?_
  refine g_V (z := yTp_octal) (e := 1) (A := [aI 7, aI (e1 + 100)]) (rest := [aR (g 532)]) (v := aL (octv (st.1 121) (e1 + 100) 7)) (P := fun h2 => h2 = h) rfl rfl rfl rfl rfl rfl (by omega) hW.tape hW.tapeb (c_octal (by omega) hW (e1 + 100) 7 (by omega) (by omega) (by omega)) ?_
  intro hh9 he9
  rw [he9]
  clear he9 hh9
  refine g_put (ci := 1) (kk := 5) (fs' := [aR (g 530), aR (g 123), aR (g 124), aI e0, aI e1, aL (octv (st.1 121) (e1 + 100) 7), aL e3, aL e4, aL e5, aI e6, aI e7, aI e8, aI e9, aI e10]) rfl rfl (rT_rd hW) hW.rdb (Nat.le_of_ble_eq_true rfl) rfl (by decide) rfl ?_
  generalize hg_hh1 : hput h (g 532) (eO 1 [aR (g 530), aR (g 123), aR (g 124), aI e0, aI e1, aL (octv (st.1 121) (e1 + 100) 7), aL e3, aL e4, aL e5, aI e6, aI e7, aI e8, aI e9, aI e10]) = hh1
  have hW := rT_set hW e0 e1 (octv (st.1 121) (e1 + 100) 7) e3 e4 e5 e6 e7 e8 e9 e10
  rw [hg_hh1] at hW
  refine g_aload_n rfl rfl ?_
  refine g_aload_n rfl rfl ?_
  refine g_get (ci := 1) (kk := 0) rfl rfl (rT_rd hW) hW.rdb rfl ?_
  refine g_aload_n rfl rfl ?_
  refine g_get (ci := 1) (kk := 4) rfl rfl (rT_rd hW) hW.rdb rfl ?_
  refine g_bipush (n := 108) rfl (by decide) ?_
  refine g_iadd rfl (by omega) ?_
  refine g_bipush (n := 7) rfl (by decide) ?_
  refine g_V (z := yTp_octal) (e := 1) (A := [aI 7, aI (e1 + 108)]) (rest := [aR (g 532)]) (v := aL (octv (st.1 121) (e1 + 108) 7)) (P := fun h2 => h2 = hh1) rfl rfl rfl rfl rfl rfl (by omega) hW.tape hW.tapeb (c_octal (by omega) hW (e1 + 108) 7 (by omega) (by omega) (by omega)) ?_
  intro hh9 he9
  rw [he9]
  clear he9 hh9
  refine g_put (ci := 1) (kk := 6) (fs' := [aR (g 530), aR (g 123), aR (g 124), aI e0, aI e1, aL (octv (st.1 121) (e1 + 100) 7), aL (octv (st.1 121) (e1 + 108) 7), aL e4, aL e5, aI e6, aI e7, aI e8, aI e9, aI e10]) rfl rfl (rT_rd hW) hW.rdb (Nat.le_of_ble_eq_true rfl) rfl (by decide) rfl ?_
  generalize hg_hh2 : hput hh1 (g 532) (eO 1 [aR (g 530), aR (g 123), aR (g 124), aI e0, aI e1, aL (octv (st.1 121) (e1 + 100) 7), aL (octv (st.1 121) (e1 + 108) 7), aL e4, aL e5, aI e6, aI e7, aI e8, aI e9, aI e10]) = hh2
  have hW := rT_set hW e0 e1 (octv (st.1 121) (e1 + 100) 7) (octv (st.1 121) (e1 + 108) 7) e4 e5 e6 e7 e8 e9 e10
  rw [hg_hh2] at hW
  refine g_aload_n rfl rfl ?_
  refine g_aload_n rfl rfl ?_
  refine g_get (ci := 1) (kk := 0) rfl rfl (rT_rd hW) hW.rdb rfl ?_
  refine g_aload_n rfl rfl ?_
  refine g_get (ci := 1) (kk := 4) rfl rfl (rT_rd hW) hW.rdb rfl ?_
  refine g_bipush (n := 124) rfl (by decide) ?_
  refine g_iadd rfl (by omega) ?_
  refine g_bipush (n := 11) rfl (by decide) ?_
  refine g_V (z := yTp_octal) (e := 1) (A := [aI 11, aI (e1 + 124)]) (rest := [aR (g 532)]) (v := aL (octv (st.1 121) (e1 + 124) 11)) (P := fun h2 => h2 = hh2) rfl rfl rfl rfl rfl rfl (by omega) hW.tape hW.tapeb (c_octal (by omega) hW (e1 + 124) 11 (by omega) (by omega) (by omega)) ?_
  intro hh9 he9
  rw [he9]
  clear he9 hh9
  refine g_put (ci := 1) (kk := 8) (fs' := [aR (g 530), aR (g 123), aR (g 124), aI e0, aI e1, aL (octv (st.1 121) (e1 + 100) 7), aL (octv (st.1 121) (e1 + 108) 7), aL e4, aL (octv (st.1 121) (e1 + 124) 11), aI e6, aI e7, aI e8, aI e9, aI e10]) rfl rfl (rT_rd hW) hW.rdb (Nat.le_of_ble_eq_true rfl) rfl (by decide) rfl ?_
  generalize hg_hh3 : hput hh2 (g 532) (eO 1 [aR (g 530), aR (g 123), aR (g 124), aI e0, aI e1, aL (octv (st.1 121) (e1 + 100) 7), aL (octv (st.1 121) (e1 + 108) 7), aL e4, aL (octv (st.1 121) (e1 + 124) 11), aI e6, aI e7, aI e8, aI e9, aI e10]) = hh3
  have hW := rT_set hW e0 e1 (octv (st.1 121) (e1 + 100) 7) (octv (st.1 121) (e1 + 108) 7) e4 (octv (st.1 121) (e1 + 124) 11) e6 e7 e8 e9 e10
  rw [hg_hh3] at hW
  refine g_aload_n rfl rfl ?_
  refine g_aload_n rfl rfl ?_
  refine g_get (ci := 1) (kk := 0) rfl rfl (rT_rd hW) hW.rdb rfl ?_
  refine g_aload_n rfl rfl ?_
  refine g_get (ci := 1) (kk := 4) rfl rfl (rT_rd hW) hW.rdb rfl ?_
  refine g_sipush (n := 136) rfl (by decide) ?_
  refine g_iadd rfl (by omega) ?_
  refine g_bipush (n := 11) rfl (by decide) ?_
  refine g_V (z := yTp_octal) (e := 1) (A := [aI 11, aI (e1 + 136)]) (rest := [aR (g 532)]) (v := aL (octv (st.1 121) (e1 + 136) 11)) (P := fun h2 => h2 = hh3) rfl rfl rfl rfl rfl rfl (by omega) hW.tape hW.tapeb (c_octal (by omega) hW (e1 + 136) 11 (by omega) (by omega) (by omega)) ?_
  intro hh9 he9
  rw [he9]
  clear he9 hh9
  refine g_put (ci := 1) (kk := 7) (fs' := [aR (g 530), aR (g 123), aR (g 124), aI e0, aI e1, aL (octv (st.1 121) (e1 + 100) 7), aL (octv (st.1 121) (e1 + 108) 7), aL (octv (st.1 121) (e1 + 136) 11), aL (octv (st.1 121) (e1 + 124) 11), aI e6, aI e7, aI e8, aI e9, aI e10]) rfl rfl (rT_rd hW) hW.rdb (Nat.le_of_ble_eq_true rfl) rfl (by decide) rfl ?_
  generalize hg_hh4 : hput hh3 (g 532) (eO 1 [aR (g 530), aR (g 123), aR (g 124), aI e0, aI e1, aL (octv (st.1 121) (e1 + 100) 7), aL (octv (st.1 121) (e1 + 108) 7), aL (octv (st.1 121) (e1 + 136) 11), aL (octv (st.1 121) (e1 + 124) 11), aI e6, aI e7, aI e8, aI e9, aI e10]) = hh4
  have hW := rT_set hW e0 e1 (octv (st.1 121) (e1 + 100) 7) (octv (st.1 121) (e1 + 108) 7) (octv (st.1 121) (e1 + 136) 11) (octv (st.1 121) (e1 + 124) 11) e6 e7 e8 e9 e10
  rw [hg_hh4] at hW
  refine g_aload_n rfl rfl ?_
  refine g_get (ci := 1) (kk := 5) rfl rfl (rT_rd hW) hW.rdb rfl ?_
  refine g_ldc2 (v := -1) rfl rfl ?_
  refine g_lcmp rfl ?_
  refine g_ifeq rfl rfl (fun c5 => ?_) (fun c5 => ?_)
  · skip
    have c5 := lc_eq c5
    refine g_iconst (n := 0) rfl (by decide) ?_
    exact r_z rfl rfl (by decide) (pz_f (fun q => by obtain ⟨q1, q2, q3, q4, q5, q6, q7, q8, q9⟩ := q; omega)).symm hW
  · skip
    have c5 := lc_ne c5
    refine g_aload_n rfl rfl ?_
    refine g_get (ci := 1) (kk := 5) rfl rfl (rT_rd hW) hW.rdb rfl ?_
    refine g_ldc2 (v := 4095) rfl rfl ?_
    refine g_lcmp rfl ?_
    refine g_ifgt rfl rfl (fun c6 => ?_) (fun c6 => ?_)
    · skip
      have c6 := lc_gt c6
      refine g_iconst (n := 0) rfl (by decide) ?_
      exact r_z rfl rfl (by decide) (pz_f (fun q => by obtain ⟨q1, q2, q3, q4, q5, q6, q7, q8, q9⟩ := q; omega)).symm hW
    · skip
      have c6 := lc_le c6
      refine g_aload_n rfl rfl ?_
      refine g_get (ci := 1) (kk := 6) rfl rfl (rT_rd hW) hW.rdb rfl ?_
      refine g_ldc2 (v := -1) rfl rfl ?_
      refine g_lcmp rfl ?_
      refine g_ifeq rfl rfl (fun c7 => ?_) (fun c7 => ?_)
      · skip
        have c7 := lc_eq c7
        refine g_iconst (n := 0) rfl (by decide) ?_
        exact r_z rfl rfl (by decide) (pz_f (fun q => by obtain ⟨q1, q2, q3, q4, q5, q6, q7, q8, q9⟩ := q; omega)).symm hW
      · skip
        have c7 := lc_ne c7
        refine g_aload_n rfl rfl ?_
        refine g_get (ci := 1) (kk := 8) rfl rfl (rT_rd hW) hW.rdb rfl ?_
        refine g_ldc2 (v := -1) rfl rfl ?_
        refine g_lcmp rfl ?_
        refine g_ifeq rfl rfl (fun c8 => ?_) (fun c8 => ?_)
        · skip
          have c8 := lc_eq c8
          refine g_iconst (n := 0) rfl (by decide) ?_
          exact r_z rfl rfl (by decide) (pz_f (fun q => by obtain ⟨q1, q2, q3, q4, q5, q6, q7, q8, q9⟩ := q; omega)).symm hW
        · skip
          have c8 := lc_ne c8
          refine g_aload_n rfl rfl ?_
          refine g_get (ci := 1) (kk := 7) rfl rfl (rT_rd hW) hW.rdb rfl ?_
          refine g_ldc2 (v := -1) rfl rfl ?_
          refine g_lcmp rfl ?_
          refine g_ifeq rfl rfl (fun c9 => ?_) (fun c9 => ?_)
          · skip
            have c9 := lc_eq c9
            refine g_iconst (n := 0) rfl (by decide) ?_
            exact r_z rfl rfl (by decide) (pz_f (fun q => by obtain ⟨q1, q2, q3, q4, q5, q6, q7, q8, q9⟩ := q; omega)).symm hW
          · skip
            have c9 := lc_ne c9
            refine g_aload_n rfl rfl ?_
            refine g_get (ci := 1) (kk := 7) rfl rfl (rT_rd hW) hW.rdb rfl ?_
            refine g_ldc2 (v := 2147483647) rfl rfl ?_
            refine g_lcmp rfl ?_
            refine g_ifgt rfl rfl (fun c10 => ?_) (fun c10 => ?_)
            · skip
              have c10 := lc_gt c10
              refine g_iconst (n := 0) rfl (by decide) ?_
              exact r_z rfl rfl (by decide) (pz_f (fun q => by obtain ⟨q1, q2, q3, q4, q5, q6, q7, q8, q9⟩ := q; omega)).symm hW
            · skip
              have c10 := lc_le c10
              refine g_aload_n rfl rfl ?_
              refine g_get (ci := 1) (kk := 0) rfl rfl (rT_rd hW) hW.rdb rfl ?_
              refine g_aload_n rfl rfl ?_
              refine g_get (ci := 1) (kk := 4) rfl rfl (rT_rd hW) hW.rdb rfl ?_
              refine g_bipush (n := 116) rfl (by decide) ?_
              refine g_iadd rfl (by omega) ?_
              refine g_bipush (n := 7) rfl (by decide) ?_
              refine g_V (z := yTp_octal) (e := 1) (A := [aI 7, aI (e1 + 116)]) (rest := []) (v := aL (octv (st.1 121) (e1 + 116) 7)) (P := fun h2 => h2 = hh4) rfl rfl rfl rfl rfl rfl (by omega) hW.tape hW.tapeb (c_octal (by omega) hW (e1 + 116) 7 (by omega) (by omega) (by omega)) ?_
              intro hh9 he9
              rw [he9]
              clear he9 hh9
              refine g_ldc2 (v := -1) rfl rfl ?_
              refine g_lcmp rfl ?_
              refine g_ifeq rfl rfl (fun c11 => ?_) (fun c11 => ?_)
              · skip
                have c11 := lc_eq c11
                refine g_iconst (n := 0) rfl (by decide) ?_
                exact r_z rfl rfl (by decide) (pz_f (fun q => by obtain ⟨q1, q2, q3, q4, q5, q6, q7, q8, q9⟩ := q; omega)).symm hW
              · skip
                have c11 := lc_ne c11
                refine g_aload_n rfl rfl ?_
                refine g_get (ci := 1) (kk := 0) rfl rfl (rT_rd hW) hW.rdb rfl ?_
                refine g_aload_n rfl rfl ?_
                refine g_get (ci := 1) (kk := 4) rfl rfl (rT_rd hW) hW.rdb rfl ?_
                refine g_sipush (n := 329) rfl (by decide) ?_
                refine g_iadd rfl (by omega) ?_
                refine g_bipush (n := 7) rfl (by decide) ?_
                refine g_V (z := yTp_octal) (e := 1) (A := [aI 7, aI (e1 + 329)]) (rest := []) (v := aL (octv (st.1 121) (e1 + 329) 7)) (P := fun h2 => h2 = hh4) rfl rfl rfl rfl rfl rfl (by omega) hW.tape hW.tapeb (c_octal (by omega) hW (e1 + 329) 7 (by omega) (by omega) (by omega)) ?_
                intro hh9 he9
                rw [he9]
                clear he9 hh9
                refine g_ldc2 (v := -1) rfl rfl ?_
                refine g_lcmp rfl ?_
                refine g_ifeq rfl rfl (fun c12 => ?_) (fun c12 => ?_)
                · skip
                  have c12 := lc_eq c12
                  refine g_iconst (n := 0) rfl (by decide) ?_
                  exact r_z rfl rfl (by decide) (pz_f (fun q => by obtain ⟨q1, q2, q3, q4, q5, q6, q7, q8, q9⟩ := q; omega)).symm hW
                · skip
                  have c12 := lc_ne c12
                  refine g_aload_n rfl rfl ?_
                  refine g_get (ci := 1) (kk := 0) rfl rfl (rT_rd hW) hW.rdb rfl ?_
                  refine g_aload_n rfl rfl ?_
                  refine g_get (ci := 1) (kk := 4) rfl rfl (rT_rd hW) hW.rdb rfl ?_
                  refine g_sipush (n := 337) rfl (by decide) ?_
                  refine g_iadd rfl (by omega) ?_
                  refine g_bipush (n := 7) rfl (by decide) ?_
                  refine g_V (z := yTp_octal) (e := 1) (A := [aI 7, aI (e1 + 337)]) (rest := []) (v := aL (octv (st.1 121) (e1 + 337) 7)) (P := fun h2 => h2 = hh4) rfl rfl rfl rfl rfl rfl (by omega) hW.tape hW.tapeb (c_octal (by omega) hW (e1 + 337) 7 (by omega) (by omega) (by omega)) ?_
                  intro hh9 he9
                  rw [he9]
                  clear he9 hh9
                  refine g_ldc2 (v := -1) rfl rfl ?_
                  refine g_lcmp rfl ?_
                  refine g_ifeq rfl rfl (fun c13 => ?_) (fun c13 => ?_)
                  · skip
                    have c13 := lc_eq c13
                    refine g_iconst (n := 0) rfl (by decide) ?_
                    exact r_z rfl rfl (by decide) (pz_f (fun q => by obtain ⟨q1, q2, q3, q4, q5, q6, q7, q8, q9⟩ := q; omega)).symm hW
                  · skip
                    have c13 := lc_ne c13
                    refine g_iconst (n := 1) rfl (by decide) ?_
                    refine g_goto rfl rfl ?_
                    exact r_z rfl rfl (by decide) (pz_t ⟨by assumption, by assumption, by assumption, by assumption, by assumption, by assumption, by assumption, by assumption, by assumption⟩).symm hW
theorem c_takeKind (hd1 : 1 ≤ d) (hW : WC K h g (rT st P T e0 e1 e2 e3 e4 e5 e6 e7 e8 e9 e10) cb sb) (hf : 0 ≤ e1) (hf2 : e1 ≤ 20000) : Cal d yRd_takeKind [aR (g 532)] h (RV (some (aI (pz (kokR (st.1 121) e1 e5)))) (fun h2 => WC K h2 g (rT st P T e0 e1 e2 e3 e4 e5 ((kndR (st.1 121) e1)) e7 e8 e9 e10) cb sb)) := by
  show Go _ _ 0 [aR (g 532)] [] _ _
  refine g_aload_n rfl rfl ?_
  refine g_aload_n rfl rfl ?_
  refine g_get (ci := 1) (kk := 0) rfl rfl (rT_rd hW) hW.rdb rfl ?_
  refine g_get (ci := 3) (kk := 0) rfl rfl hW.tape hW.tapeb rfl ?_
  refine g_aload_n rfl rfl ?_
  refine g_get (ci := 1) (kk := 4) rfl rfl (rT_rd hW) hW.rdb rfl ?_
  refine g_sipush (n := 156) rfl (by decide) ?_
  refine g_iadd rfl (by omega) ?_
  refine g_V (z := yRw_at) (e := 1) (A := [aI (e1 + 156)]) (rest := [aR (g 532)]) (v := aI (rat (st.1 121) (e1 + 156))) (P := fun h2 => h2 = h) rfl rfl rfl rfl rfl rfl (by omega) (rT_r1 hW) (hW.rowb (by omega)) (c_at hW (r := 121) (by omega) _) ?_
  intro hh9 he9
  rw [he9]
  clear he9 hh9
  refine g_S (z := yTt_kindOf) (e := 1) (A := [aI (rat (st.1 121) (e1 + 156))]) (rest := [aR (g 532)]) (v := aI (kndR (st.1 121) e1)) (P := fun h2 => h2 = h) rfl rfl rfl rfl rfl rfl (by omega) (c_kindOf _) ?_
  intro hh9 he9
  rw [he9]
  clear he9 hh9
  refine g_put (ci := 1) (kk := 9) (fs' := [aR (g 530), aR (g 123), aR (g 124), aI e0, aI e1, aL e2, aL e3, aL e4, aL e5, aI (kndR (st.1 121) e1), aI e7, aI e8, aI e9, aI e10]) rfl rfl (rT_rd hW) hW.rdb (Nat.le_of_ble_eq_true rfl) rfl (by decide) rfl ?_
  generalize hg_hh1 : hput h (g 532) (eO 1 [aR (g 530), aR (g 123), aR (g 124), aI e0, aI e1, aL e2, aL e3, aL e4, aL e5, aI (kndR (st.1 121) e1), aI e7, aI e8, aI e9, aI e10]) = hh1
  have hW := rT_set hW e0 e1 e2 e3 e4 e5 (kndR (st.1 121) e1) e7 e8 e9 e10
  rw [hg_hh1] at hW
  refine g_aload_n rfl rfl ?_
  refine g_get (ci := 1) (kk := 9) rfl rfl (rT_rd hW) hW.rdb rfl ?_
  refine g_iconst (n := -1) rfl (by decide) ?_
  refine g_icmpeq rfl rfl (fun c2 => ?_) (fun c2 => ?_)
  · skip
    refine g_iconst (n := 0) rfl (by decide) ?_
    exact r_z rfl rfl (by decide) (pz_f (fun q => by have q1 := q.1; have q2 := q.2; omega)).symm hW
  · skip
    refine g_aload_n rfl rfl ?_
    refine g_get (ci := 1) (kk := 9) rfl rfl (rT_rd hW) hW.rdb rfl ?_
    refine g_iconst (n := 1) rfl (by decide) ?_
    refine g_icmpeq rfl rfl (fun c3 => ?_) (fun c3 => ?_)
    · skip
      refine g_iconst (n := 1) rfl (by decide) ?_
      refine g_goto rfl rfl ?_
      exact r_z rfl rfl (by decide) (pz_t ⟨by assumption, by omega⟩).symm hW
    · skip
      refine g_aload_n rfl rfl ?_
      refine g_get (ci := 1) (kk := 8) rfl rfl (rT_rd hW) hW.rdb rfl ?_
      refine g_lconst (m := 0) rfl rfl ?_
      refine g_lcmp rfl ?_
      refine g_ifne rfl rfl (fun c4 => ?_) (fun c4 => ?_)
      · skip
        have c4 := lc_ne c4
        refine g_iconst (n := 0) rfl (by decide) ?_
        exact r_z rfl rfl (by decide) (pz_f (fun q => by have q1 := q.1; have q2 := q.2; omega)).symm hW
      · skip
        have c4 := lc_eq c4
        refine g_iconst (n := 1) rfl (by decide) ?_
        refine g_goto rfl rfl ?_
        exact r_z rfl rfl (by decide) (pz_t ⟨by assumption, by omega⟩).symm hW
theorem r_wholeBlocks (hW : WC K h g (rT st P T e0 e1 e2 e3 e4 e5 e6 e7 e8 e9 e10) cb sb) : Cal d yTp_wholeBlocks [aR (g 530)] h (RV (some (aI (((st.1 121).length : Int) / 512))) (fun h2 => h2 = h)) := by
  have k := c_wholeBlocks (d := d) hW
  exact k
theorem c_faultOfContents (hd2 : 2 ≤ d) (hW : WC K h g (rT st P T e0 e1 e2 e3 e4 e5 e6 e7 e8 e9 e10) cb sb) (n : Int) (hn0 : 0 ≤ n) (hn : n ≤ 2000) (h0 : 0 ≤ e0) (h1 : e0 ≤ 100) (he : e1 = e0 * 512) : Cal d yRd_faultOfContents [aR (g 532), aI n] h (RV (some (aI (fcR (st.1 121) e0 n))) (fun h2 => h2 = h)) := by
  subst he
  show Go _ _ 0 [aR (g 532), aI n, none, none] [] _ _
  refine g_iload_n rfl rfl ?_
  refine g_S (z := yTp_blocksOf) (e := 1) (A := [aI n]) (rest := []) (v := aI ((n + 511) / 512)) (P := fun h2 => h2 = h) rfl rfl rfl rfl rfl rfl (by omega) (c_blocksOf _ hn0 (by omega)) ?_
  intro hh9 he9
  rw [he9]
  clear he9 hh9
  refine g_istore_n (L' := [aR (g 532), aI n, aI ((n + 511) / 512), none]) rfl rfl ?_
  refine g_aload_n rfl rfl ?_
  refine g_get (ci := 1) (kk := 3) rfl rfl (rT_rd hW) hW.rdb rfl ?_
  refine g_iload_n rfl rfl ?_
  refine g_iadd rfl (by omega) ?_
  refine g_aload_n rfl rfl ?_
  refine g_get (ci := 1) (kk := 0) rfl rfl (rT_rd hW) hW.rdb rfl ?_
  refine g_V (z := yTp_wholeBlocks) (e := 1) (A := []) (rest := [aI (e0 + ((n + 511) / 512))]) (v := aI (((st.1 121).length : Int) / 512)) (P := fun h2 => h2 = h) rfl rfl rfl rfl rfl rfl (by omega) hW.tape hW.tapeb (r_wholeBlocks hW) ?_
  intro hh9 he9
  rw [he9]
  clear he9 hh9
  refine g_icmplt rfl rfl (fun c1 => ?_) (fun c1 => ?_)
  · skip
    refine g_aload_n rfl rfl ?_
    refine g_get (ci := 1) (kk := 4) rfl rfl (rT_rd hW) hW.rdb rfl ?_
    refine g_sipush (n := 512) rfl (by decide) ?_
    refine g_iadd rfl (by omega) ?_
    refine g_istore_n (L' := [aR (g 532), aI n, aI ((n + 511) / 512), aI (((e0 * 512)) + 512)]) rfl rfl ?_
    refine g_aload_n rfl rfl ?_
    refine g_get (ci := 1) (kk := 0) rfl rfl (rT_rd hW) hW.rdb rfl ?_
    refine g_iload_n rfl rfl ?_
    refine g_iload_n rfl rfl ?_
    refine g_iadd rfl (by omega) ?_
    refine g_iload_n rfl rfl ?_
    refine g_iload_n rfl rfl ?_
    refine g_sipush (n := 512) rfl (by decide) ?_
    refine g_imul rfl (by omega) ?_
    refine g_iadd rfl (by omega) ?_
    refine g_V (z := yTp_isZeros) (e := 1) (A := [aI ((((e0 * 512)) + 512) + (((n + 511) / 512) * 512)), aI ((((e0 * 512)) + 512) + n)]) (rest := []) (v := aI (pz (zrs (st.1 121) (e0 * 512 + 512 + n) (e0 * 512 + 512 + (n + 511) / 512 * 512)))) (P := fun h2 => h2 = h) rfl rfl rfl rfl rfl rfl (by omega) hW.tape hW.tapeb (c_isZeros (by omega) hW _ _ (by omega) (by omega)) ?_
    intro hh9 he9
    rw [he9]
    clear he9 hh9
    refine g_ifeq rfl rfl (fun c2 => ?_) (fun c2 => ?_)
    · skip
      refine g_bipush (n := 11) rfl (by decide) ?_
      exact r_i rfl rfl (by unfold fcR; rw [if_neg (by omega), @if_neg _ (Classical.propDecidable _) (pz_eq c2)]) rfl
    · skip
      refine g_iconst (n := 0) rfl (by decide) ?_
      refine g_goto rfl rfl ?_
      exact r_i rfl rfl (by unfold fcR; rw [if_neg (by omega), @if_pos _ (Classical.propDecidable _) (pz_ne c2)]) rfl
  · skip
    refine g_bipush (n := 10) rfl (by decide) ?_
    exact r_i rfl rfl (by unfold fcR; rw [if_pos (by omega)]) rfl
theorem r_lookUp (hd2 : 2 ≤ d) (hW : WC K h g (rT st P T e0 e1 e2 e3 e4 e5 e6 e7 e8 e9 e10) cb sb) (ht : t < 2) {r : Nat} {l : List Int} (hr : r < 125) (hl : (rT st P T e0 e1 e2 e3 e4 e5 e6 e7 e8 e9 e10).1 r = l) (e : Int) (he0 : 0 ≤ e) (he : e ≤ l.length) : Cal d yTr_lookUp [aR (g (500 + t)), aR (g r), aI e] h (RV (some (aI (lkl st t l e (e.toNat + 1) 0 0 0))) (fun h2 => h2 = h)) := by
  have v : VQ st (rT st P T e0 e1 e2 e3 e4 e5 e6 e7 e8 e9 e10) t := rT_vq (rT_shp hW) ht
  have k := c_lookUp hd2 hW ht hr e he0 (by rw [hl]; exact he)
  rw [lkF_l, hl, v.qlkl ((rT_shp hW).2.2.1 t ht).1] at k
  exact k
theorem r_childNamed (hd1 : 1 ≤ d) (hW : WC K h g (rT st P T e0 e1 e2 e3 e4 e5 e6 e7 e8 e9 e10) cb sb) (ht : t < 2) (dir f e : Int) (hf : r32 f) (he : r32 e) (hfe : 0 ≤ f → r32 (e - f)) : Cal d yTr_childNamed [aR (g (500 + t)), aI dir, aR (g 123), aI f, aI e] h (RV (some (aI (chl st t P dir f e))) (fun h2 => h2 = h)) := by
  have v : VQ st (rT st P T e0 e1 e2 e3 e4 e5 e6 e7 e8 e9 e10) t := rT_vq (rT_shp hW) ht
  have k := c_childNamed hd1 hW ht (r := 123) (by omega) dir f e hf he hfe
  rw [chn_l, v.qchl ((rT_shp hW).2.2.1 t ht).1] at k
  exact k
theorem c_takeTarget (hd3 : 3 ≤ d) (hW : WC K h g (rT st P T e0 e1 e2 e3 e4 e5 e6 e7 e8 e9 e10) cb sb) (ht : t < 2) (hf : 0 ≤ e1) (hf2 : e1 + 512 ≤ (st.1 121).length) : Cal d yRd_takeTarget [aR (g 532), aR (g (500 + t))] h (RV (some (aI (pz (tokR st t (st.1 121) e1 e6)))) (fun h2 => ∃ z, WC K h2 g (rT st P ((tgR (st.1 121) e1)) e0 e1 e2 e3 e4 e5 e6 e7 e8 e9 z) cb sb ∧ (tokR st t (st.1 121) e1 e6 → z = flR st t (st.1 121) e1 e6))) := by
  have hl := hW.len (r := 121) (by omega)
  have hl9 : (st.1 121).length ≤ 10240 := hl
  have htl : (tgR (st.1 121) e1).length ≤ 100 := by
    unfold tgR
    rw [cps_len]
    have := tx_le (st.1 121) 100 (e1 + 157)
    omega
  show Go _ _ 0 [aR (g 532), aR (g (500 + t))] [] _ _
  refine g_aload_n rfl rfl ?_
  refine g_get (ci := 1) (kk := 2) rfl rfl (rT_rd hW) hW.rdb rfl ?_
  refine g_iconst (n := 0) rfl (by decide) ?_
  refine g_Vn (z := yRw_resize) (e := 1) (A := [aI 0]) (rest := [])  rfl rfl rfl rfl rfl rfl (by omega) (rT_r4 hW) (hW.rowb (by omega)) (c_resize (by omega) hW (r := 124) (by omega) _) ?_
  intro hh1 hW
  have hW : WC K hh1 g (rT st P ([]) e0 e1 e2 e3 e4 e5 e6 e7 e8 e9 e10) cb sb := by
    rw [rsz_0, rT_R4] at hW
    exact hW
  refine g_aload_n rfl rfl ?_
  refine g_iconst (n := -1) rfl (by decide) ?_
  refine g_put (ci := 1) (kk := 13) (fs' := [aR (g 530), aR (g 123), aR (g 124), aI e0, aI e1, aL e2, aL e3, aL e4, aL e5, aI e6, aI e7, aI e8, aI e9, aI (-1)]) rfl rfl (rT_rd hW) hW.rdb (Nat.le_of_ble_eq_true rfl) rfl (by decide) rfl ?_
  generalize hg_hh2 : hput hh1 (g 532) (eO 1 [aR (g 530), aR (g 123), aR (g 124), aI e0, aI e1, aL e2, aL e3, aL e4, aL e5, aI e6, aI e7, aI e8, aI e9, aI (-1)]) = hh2
  have hW := rT_set hW e0 e1 e2 e3 e4 e5 e6 e7 e8 e9 (-1)
  rw [hg_hh2] at hW
  refine g_aload_n rfl rfl ?_
  refine g_aload_n rfl rfl ?_
  refine g_get (ci := 1) (kk := 2) rfl rfl (rT_rd hW) hW.rdb rfl ?_
  refine g_aload_n rfl rfl ?_
  refine g_get (ci := 1) (kk := 4) rfl rfl (rT_rd hW) hW.rdb rfl ?_
  refine g_sipush (n := 157) rfl (by decide) ?_
  refine g_iadd rfl (by omega) ?_
  refine g_bipush (n := 100) rfl (by decide) ?_
  refine g_V (z := yRd_addText) (e := 1) (A := [aI 100, aI (e1 + 157), aR (g 124)]) (rest := []) (v := aI (pz (zrs (st.1 121) (e1 + 157 + tx (st.1 121) (e1 + 157) 100) (e1 + 157 + 100))))  rfl rfl rfl rfl rfl rfl (by omega) (rT_rd hW) hW.rdb (c_addText (by omega) hW (r := 124) (by omega) (by omega) (e1 + 157) 100 (by omega) (show _ ≤ ((st.1 121).length : Int) by omega) (by show 0 + 100 ≤ 10240; omega)) ?_
  intro hh3 hW
  have hW : WC K hh3 g (rT st P ((tgR (st.1 121) e1)) e0 e1 e2 e3 e4 e5 e6 e7 e8 e9 ((-1))) cb sb := by
    rw [rT_R4] at hW
    exact hW
  refine g_ifne rfl rfl (fun c4 => ?_) (fun c4 => ?_)
  · skip
    have z1 := c4
    refine g_aload_n rfl rfl ?_
    refine g_get (ci := 1) (kk := 9) rfl rfl (rT_rd hW) hW.rdb rfl ?_
    refine g_iconst (n := 2) rfl (by decide) ?_
    refine g_icmpne rfl rfl (fun c5 => ?_) (fun c5 => ?_)
    · skip
      have k2 := c5
      refine g_aload_n rfl rfl ?_
      refine g_get (ci := 1) (kk := 9) rfl rfl (rT_rd hW) hW.rdb rfl ?_
      refine g_iconst (n := 3) rfl (by decide) ?_
      refine g_icmpne rfl rfl (fun c6 => ?_) (fun c6 => ?_)
      · skip
        have k3 := c6
        refine g_aload_n rfl rfl ?_
        refine g_get (ci := 1) (kk := 2) rfl rfl (rT_rd hW) hW.rdb rfl ?_
        refine g_get (ci := 2) (kk := 1) rfl rfl (rT_r4 hW) (hW.rowb (by omega)) rfl ?_
        refine g_ifne rfl rfl (fun c7 => ?_) (fun c7 => ?_)
        · skip
          have z9 := c7
          refine g_iconst (n := 0) rfl (by decide) ?_
          exact r_z rfl rfl (by decide) (pz_f (fun q => z9 (by have := q.2.2.2 k2 k3; omega))).symm ⟨_, hW, fun q => by unfold flR; rw [if_neg k3]⟩
        · skip
          have z9 := c7
          refine g_iconst (n := 1) rfl (by decide) ?_
          refine g_goto rfl rfl ?_
          exact r_z rfl rfl (by decide) (pz_t ⟨pz_ne z1, fun k4 => absurd k4 k2, fun k4 => absurd k4 k3, fun _ _ => by omega⟩).symm ⟨_, hW, fun q => by unfold flR; rw [if_neg k3]⟩
      · skip
        have k3 := c6
        have ef : flR st t (st.1 121) e1 e6 = lkl st t (tgR (st.1 121) e1) (tgR (st.1 121) e1).length ((tgR (st.1 121) e1).length + 1) 0 0 0 := by unfold flR; rw [if_pos k3]
        refine g_aload_n rfl rfl ?_
        refine g_aload_n rfl rfl ?_
        refine g_aload_n rfl rfl ?_
        refine g_get (ci := 1) (kk := 2) rfl rfl (rT_rd hW) hW.rdb rfl ?_
        refine g_aload_n rfl rfl ?_
        refine g_get (ci := 1) (kk := 2) rfl rfl (rT_rd hW) hW.rdb rfl ?_
        refine g_get (ci := 2) (kk := 1) rfl rfl (rT_r4 hW) (hW.rowb (by omega)) rfl ?_
        refine g_V (z := yTr_lookUp) (e := 1) (A := [aI (((tgR (st.1 121) e1).length : Int)), aR (g 124)]) (rest := [aR (g 532)]) (v := aI (flR st t (st.1 121) e1 e6)) (P := fun h2 => h2 = hh3) rfl rfl rfl rfl rfl rfl (by omega) (rT_tree hW ht) (hW.treeb ht) (ef ▸ r_lookUp (by omega) hW ht (r := 124) (by omega) rfl _ (by omega) (Int.le_refl _)) ?_
        intro hh9 he9
        rw [he9]
        clear he9 hh9
        refine g_put (ci := 1) (kk := 13) (fs' := [aR (g 530), aR (g 123), aR (g 124), aI e0, aI e1, aL e2, aL e3, aL e4, aL e5, aI e6, aI e7, aI e8, aI e9, aI (flR st t (st.1 121) e1 e6)]) rfl rfl (rT_rd hW) hW.rdb (Nat.le_of_ble_eq_true rfl) rfl (by decide) rfl ?_
        generalize hg_hh8 : hput hh3 (g 532) (eO 1 [aR (g 530), aR (g 123), aR (g 124), aI e0, aI e1, aL e2, aL e3, aL e4, aL e5, aI e6, aI e7, aI e8, aI e9, aI (flR st t (st.1 121) e1 e6)]) = hh8
        have hW := rT_set hW e0 e1 e2 e3 e4 e5 e6 e7 e8 e9 (flR st t (st.1 121) e1 e6)
        rw [hg_hh8] at hW
        refine g_aload_n rfl rfl ?_
        refine g_aload_n rfl rfl ?_
        refine g_get (ci := 1) (kk := 13) rfl rfl (rT_rd hW) hW.rdb rfl ?_
        refine g_iconst (n := 1) rfl (by decide) ?_
        refine g_V (z := yTr_isOfKind) (e := 1) (A := [aI 1, aI (flR st t (st.1 121) e1 e6)]) (rest := []) (v := aI (pz (isK st t (flR st t (st.1 121) e1 e6) 1))) (P := fun h2 => h2 = hh8) rfl rfl rfl rfl rfl rfl (by omega) (rT_tree hW ht) (hW.treeb ht) (c_isOfKind hW ht _ _) ?_
        intro hh9 he9
        rw [he9]
        clear he9 hh9
        exact r_z rfl rfl (pz01 _) (pz_congr ⟨fun q => ⟨pz_ne z1, fun k4 => absurd k4 k2, fun _ => q, fun _ k4 => absurd k3 k4⟩, fun q => q.2.2.1 k3⟩) ⟨_, hW, fun _ => rfl⟩
    · skip
      have k2 := c5
      refine g_aload_n rfl rfl ?_
      refine g_get (ci := 1) (kk := 2) rfl rfl (rT_rd hW) hW.rdb rfl ?_
      refine g_V (z := yRw_isTarget) (e := 1) (A := []) (rest := []) (v := aI (pz (tgt (tgR (st.1 121) e1)))) (P := fun h2 => h2 = hh3) rfl rfl rfl rfl rfl rfl (by omega) (rT_r4 hW) (hW.rowb (by omega)) (c_isTarget (by omega) hW (r := 124) (by omega)) ?_
      intro hh9 he9
      rw [he9]
      clear he9 hh9
      exact r_z rfl rfl (pz01 _) (pz_congr ⟨fun q => ⟨pz_ne z1, fun _ => q, fun k3 => by omega, fun k4 => absurd k2 k4⟩, fun q => q.2.1 k2⟩) ⟨_, hW, fun q => by unfold flR; rw [if_neg (by omega)]⟩
  · skip
    have z1 := c4
    refine g_iconst (n := 0) rfl (by decide) ?_
    exact r_z rfl rfl (by decide) (pz_f (fun q => pz_eq z1 q.1)).symm ⟨_, hW, fun q => absurd q.1 (pz_eq z1)⟩
end ReaderC
