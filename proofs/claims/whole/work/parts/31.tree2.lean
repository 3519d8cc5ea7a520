/-! Contracts of the methods of nodes and trees that change something. -/
theorem cel_low {g : Nat → Nat} {hd : HD} {st st' : CS} {c : Nat} (hc : c < 325) (h1 : st'.1 = st.1) : cel g hd st' c = cel g hd st c := by
  unfold cel
  by_cases h : c < 125
  · simp only [if_pos h, h1]
  · simp only [if_neg h, if_pos hc]
section SetW
variable {K : KE} {h : AH} {g : Nat → Nat} {st st' : CS} {cb sb : Nat} {t j : Nat}
theorem WC.set (hW : WC K h g st cb sb) {c0 : Nat} {e : AE} (hc0 : dm c0) (h3 : 325 ≤ c0) (hr : st'.1 = st.1) (he : cel g hd0 st' c0 = e) (ho : ∀ c, dm c → 325 ≤ c → c ≠ c0 → cel g hd0 st' c = cel g hd0 st c) (hs : shp st') : WC K (hput h (g c0) e) g st' cb sb := by
  obtain ⟨hd, hW⟩ := hW
  have k := hW.put (c0 := c0) (hd' := hd) (st' := st') (e := e) hc0 (fun _ => ⟨rfl, rfl⟩) (by rw [cel_325 h3]; exact he) (fun c hc hne => by
    by_cases h9 : c < 325
    · exact cel_low h9 hr
    · exact (cel_325 (hd := hd) (st := st') (by omega)).trans ((ho c hc (by omega) hne).trans (cel_325 (hd := hd) (st := st) (by omega)).symm)) (fun r hr2 => by
    have := hW.2.2.1 r hr2
    unfold rowok at this ⊢
    rw [hr]
    exact this) hs
  rw [ad_g (by omega)] at k
  exact ⟨hd, k⟩
theorem WC.setN (hW : WC K h g st cb sb) (hj : j < 60) {k : Nat} {v : Int} {fs : List AV} (he : fs = [aR (g (2 * j)), aR (g (2 * j + 1)), aI ((uN st j k v).2.1 j 0), aI ((uN st j k v).2.1 j 1), aI ((uN st j k v).2.1 j 2), aI ((uN st j k v).2.1 j 3), aI ((uN st j k v).2.1 j 4), aI ((uN st j k v).2.1 j 5)]) : WC K (hput h (g (400 + j)) (eO 0 fs)) g (uN st j k v) cb sb := by
  subst he
  refine hW.set (dm_400 hj) (by omega) rfl ?_ (fun c hc h3 hne => ?_) hW.shq
  · unfold cel
    rw [if_neg (by omega), if_neg (by omega), if_pos (by omega), Nat.add_sub_cancel_left]
  · unfold cel
    by_cases h4 : c < 460
    · have e : (uN st j k v).2.1 (c - 400) = st.2.1 (c - 400) := by
        have : c - 400 ≠ j := by rcases hc with h | h | h | h <;> omega
        simp [uN, va_up, this]
      simp only [e]
      rfl
    · simp only [if_neg (show ¬ c < 125 by omega), if_neg (show ¬ c < 325 by omega), if_neg h4]
      rfl
theorem WC.setC (hW : WC K h g st cb sb) (ht : t < 2) {n : Nat} (hn : 1 ≤ n ∧ n ≤ 30) : WC K (hput h (g (500 + t)) (eO 4 [aR (g (510 + t)), aI (n : Int), aR (g (520 + t))])) g (uC st t n) cb sb := by
  have hu : ∀ t', (uC st t n).2.2.2.1 t' = if t' = t then n else st.2.2.2.1 t' := fun _ => rfl
  refine hW.set (dm_500 ht) (by omega) rfl ?_ (fun c hc h3 hne => ?_) ?_
  · unfold cel
    rw [if_neg (by omega), if_neg (by omega), if_neg (by omega), if_pos (by omega), Nat.add_sub_cancel_left, show 500 + t + 10 = 510 + t by omega, show 500 + t + 20 = 520 + t by omega, hu, if_pos rfl]
  · unfold cel
    simp only [if_neg (show ¬ c < 125 by omega), if_neg (show ¬ c < 325 by omega)]
    by_cases h4 : c < 460
    · simp only [if_pos h4]
      rfl
    · simp only [if_neg h4]
      by_cases h5 : c < 502
      · simp only [if_pos h5]
        rw [hu, if_neg (by rcases hc with h | h | h | h <;> omega)]
      · simp only [if_neg h5]
        rfl
  · obtain ⟨q1, q2, q3, q4⟩ := hW.shq
    refine ⟨q1, q2, fun t' ht' => ?_, q4⟩
    rw [hu]
    split
    · exact hn
    · exact q3 t' ht'
theorem WC.setW (hW : WC K h g st cb sb) (ht : t < 2) (i : Nat) (v : Int) : WC K (hput h (g (520 + t)) (eA 0 30 (va_up (st.2.2.2.2.1 t) i v))) g (uW st t i v) cb sb := by
  have hu : ∀ t', (uW st t i v).2.2.2.2.1 t' = if t' = t then va_up (st.2.2.2.2.1 t) i v else st.2.2.2.2.1 t' := fun _ => rfl
  refine hW.set (dm_520 ht) (by omega) rfl ?_ (fun c hc h3 hne => ?_) hW.shq
  · unfold cel
    rw [if_neg (by omega), if_neg (by omega), if_neg (by omega), if_neg (by omega), if_neg (by omega), if_pos (by omega), Nat.add_sub_cancel_left, hu, if_pos rfl]
  · unfold cel
    simp only [if_neg (show ¬ c < 125 by omega), if_neg (show ¬ c < 325 by omega)]
    by_cases h4 : c < 512
    · by_cases h5 : c < 460
      · simp only [if_pos h5]; rfl
      · simp only [if_neg h5]
        by_cases h6 : c < 502
        · simp only [if_pos h6]; rfl
        · simp only [if_neg h6, if_pos h4]; rfl
    · simp only [if_neg (show ¬ c < 460 by omega), if_neg (show ¬ c < 502 by omega), if_neg h4]
      by_cases h5 : c < 522
      · simp only [if_pos h5]
        rw [hu, if_neg (by rcases hc with h | h | h | h <;> omega)]
      · simp only [if_neg h5]; rfl
/-- two nodes of a tree change places -/
def swp (f : Nat → Nat) (a b : Nat) : Nat → Nat := fun i => if i = b then f a else if i = a then f b else f i
theorem swp_eq (f : Nat → Nat) (a b i : Nat) : swp f a b i = f (if i = b then a else if i = a then b else i) := by
  unfold swp
  split
  · rfl
  · split <;> rfl
theorem WC.setP (hW : WC K h g st cb sb) (ht : t < 2) {a b : Nat} (ha : a < 30) (hb : b < 30) : WC K (hput h (g (510 + t)) (eQ 3 30 (nar g (swp (st.2.2.1 t) a b)))) g (uP st t (swp (st.2.2.1 t) a b)) cb sb := by
  have hu : ∀ t', (uP st t (swp (st.2.2.1 t) a b)).2.2.1 t' = if t' = t then swp (st.2.2.1 t) a b else st.2.2.1 t' := fun _ => rfl
  refine hW.set (dm_510 ht) (by omega) rfl ?_ (fun c hc h3 hne => ?_) ?_
  · unfold cel
    rw [if_neg (by omega), if_neg (by omega), if_neg (by omega), if_neg (by omega), if_pos (by omega), Nat.add_sub_cancel_left, hu, if_pos rfl]
  · unfold cel
    simp only [if_neg (show ¬ c < 125 by omega), if_neg (show ¬ c < 325 by omega)]
    by_cases h5 : c < 460
    · simp only [if_pos h5]; rfl
    · simp only [if_neg h5]
      by_cases h6 : c < 502
      · simp only [if_pos h6]; rfl
      · simp only [if_neg h6]
        by_cases h7 : c < 512
        · simp only [if_pos h7]
          rw [hu, if_neg (by rcases hc with h | h | h | h <;> omega)]
        · simp only [if_neg h7]; rfl
  · obtain ⟨q1, q2, q3, q4⟩ := hW.shq
    refine ⟨fun t' i ht' hi => ?_, fun t' i k ht' hi hk => ?_, q3, q4⟩
    · rw [hu]
      split
      · rename_i e; subst e
        unfold swp
        split
        · exact q1 t' a ht' ha
        · split
          · exact q1 t' b ht' hb
          · exact q1 t' i ht' hi
      · exact q1 t' i ht' hi
    · rw [hu]
      split
      · rename_i e; subst e
        intro he
        rw [swp_eq, swp_eq] at he
        have h9 := q2 t' _ _ ht' (by split <;> (try split) <;> omega) (by split <;> (try split) <;> omega) he
        split at h9 <;> split at h9 <;> (try split at h9) <;> (try split at h9) <;> omega
      · exact q2 t' i k ht' hi hk
theorem WC.setM (hW : WC K h g st cb sb) {c0 k : Nat} {e : AE} {v : Int} (hc0 : 531 ≤ c0 ∧ c0 ≤ 533) (he : cel g hd0 (uM st k v) c0 = e) (ho : ∀ c, 531 ≤ c → c ≤ 533 → c ≠ c0 → cel g hd0 (uM st k v) c = cel g hd0 st c) (hs : k = 0 → v = 0 ∨ v = 1) : WC K (hput h (g c0) e) g (uM st k v) cb sb := by
  refine hW.set (by unfold dm; omega) (by omega) rfl he (fun c hc h3 hne => ?_) ?_
  · by_cases h4 : 531 ≤ c ∧ c ≤ 533
    · exact ho c h4.1 h4.2 hne
    · unfold cel
      simp only [if_neg (show ¬ c < 125 by omega), if_neg (show ¬ c < 325 by omega)]
      by_cases h5 : c < 460
      · simp only [if_pos h5]; rfl
      · simp only [if_neg h5]
        by_cases h6 : c < 502
        · simp only [if_pos h6]; rfl
        · simp only [if_neg h6]
          by_cases h7 : c < 512
          · simp only [if_pos h7]; rfl
          · simp only [if_neg h7]
            by_cases h8 : c < 522
            · simp only [if_pos h8]; rfl
            · have h9 : c = 530 := by rcases hc with h | h | h | h <;> omega
              simp only [if_neg h8, if_pos h9]
  · obtain ⟨q1, q2, q3, q4⟩ := hW.shq
    refine ⟨q1, q2, q3, ?_⟩
    show va_up st.2.2.2.2.2 k v 0 = 0 ∨ va_up st.2.2.2.2.2 k v 0 = 1
    unfold va_up
    split
    · rename_i e; exact hs e.symm
    · exact q4
end SetW
/-- a node begins -/
def bgn (st : CS) (j : Nat) (kd dr fl : Int) : CS := uN (uN (uN (uN (uN (uN (uR (uR st (2 * j) []) (2 * j + 1) []) j 0 kd) j 1 dr) j 2 fl) j 3 0) j 4 0) j 5 0
def trAdd (st : CS) (t r : Nat) (dir kind file f e : Int) : CS := uC (uR (bgn st (st.2.2.1 t ((st.2.2.2.1 t))) kind dir file) (2 * st.2.2.1 t ((st.2.2.2.1 t))) (cps (st.1 r) f e)) t ((st.2.2.2.1 t) + 1)
def upl (st : CS) (t : Nat) : Nat → Int → List Int
  | 0, _ => []
  | n + 1, a => if 0 < a ∧ a < (st.2.2.2.1 t) then upl st t n ((st.2.1 (st.2.2.1 t a.toNat) 1)) ++ ((st.1 (2 * st.2.2.1 t a.toNat)) ++ (if n + 1 < 30 then [47] else [])) else []
noncomputable def pth (st : CS) (t : Nat) (i : Int) : List Int := upl st t 30 i ++ @ite (List Int) (isK st t i 0) (Classical.propDecidable _) [47] []
theorem plF_upl (st : CS) (t : Nat) : ∀ (n : Nat) (a x : Int), plF st t n a x = x + (upl st t n a).length := by
  intro n
  induction n with
  | zero => intro a x; simp [plF, upl]
  | succ n ih =>
    intro a x
    unfold plF upl
    by_cases h : 0 < a ∧ a < (st.2.2.2.1 t)
    · rw [if_pos h, if_pos h, ih, List.length_append, List.length_append]
      by_cases h2 : n + 1 < 30
      · rw [if_pos h2, if_pos (by omega)]
        simp
        omega
      · rw [if_neg h2, if_neg (by omega)]
        simp
        omega
    · rw [if_neg h, if_neg h]
      simp
theorem pln_pth (st : CS) (t : Nat) (i : Int) : pln st t i = (pth st t i).length := by
  unfold pln pth
  rw [plF_upl, List.length_append]
  by_cases h : isK st t i 0
  · rw [pz_t h, @if_pos _ (Classical.propDecidable _) h]
    simp
    omega
  · rw [pz_f h, @if_neg _ (Classical.propDecidable _) h]
    simp
theorem getD_app (l m : List Int) (j : Nat) : (l ++ m).getD j 0 = if j < l.length then l.getD j 0 else m.getD (j - l.length) 0 := by
  simp only [List.getD_eq_getElem?_getD, List.getElem?_append]
  split <;> rfl
theorem rput_get {l : List Int} {i b : Int} (h0 : 0 ≤ i) (h1 : i < l.length) (j : Nat) : (rput l i b).getD j 0 = if j = i.toNat then a8 b else l.getD j 0 := by
  unfold rput
  rw [if_pos ⟨h0, h1⟩, getD_set (by omega)]
theorem ovl_len (l m : List Int) (p : Int) : (ovl l p m).length = l.length := oF_len _ _
theorem ovl_get {l m : List Int} {p : Int} {j : Nat} (hj : j < l.length) : (ovl l p m).getD j 0 = if p.toNat ≤ j ∧ j < p.toNat + m.length then m.getD (j - p.toNat) 0 else l.getD j 0 := oF_get hj
section Tree2C
variable {K : KE} {h : AH} {g : Nat → Nat} {st : CS} {cb sb : Nat} {d t r j : Nat}
theorem c_begin (hd2 : 2 ≤ d) (hW : WC K h g st cb sb) (hj : j < 60) (kd dr fl : Int) : Cal d yNd_begin [aR (g (400 + j)), aI kd, aI dr, aI fl] h (RV none (fun h2 => WC K h2 g (bgn st j kd dr fl) cb sb)) := by
  show Go _ _ 0 [aR (g (400 + j)), aI kd, aI dr, aI fl] [] _ _
  refine g_aload_n rfl rfl ?_
  refine g_get (ci := 0) (kk := 0) rfl rfl (hW.node hj) (hW.nodeb hj) rfl ?_
  refine g_iconst (n := 0) rfl (by decide) ?_
  refine g_Vn (z := yRw_resize) (e := 1) (A := [aI 0]) (rest := [])  rfl rfl rfl rfl rfl rfl (by omega) (hW.row (by omega)) (hW.rowb (by omega)) (c_resize (by omega) hW (by omega) _) ?_
  intro hh1 hW
  rw [rsz_0] at hW
  refine g_aload_n rfl rfl ?_
  refine g_get (ci := 0) (kk := 1) rfl rfl (hW.node hj) (hW.nodeb hj) rfl ?_
  refine g_iconst (n := 0) rfl (by decide) ?_
  refine g_Vn (z := yRw_resize) (e := 1) (A := [aI 0]) (rest := [])  rfl rfl rfl rfl rfl rfl (by omega) (hW.row (by omega)) (hW.rowb (by omega)) (c_resize (by omega) hW (by omega) _) ?_
  intro hh2 hW
  rw [rsz_0] at hW
  refine g_aload_n rfl rfl ?_
  refine g_iload_n rfl rfl ?_
  refine g_put (ci := 0) (kk := 2) (fs' := [aR (g (2 * j)), aR (g (2 * j + 1)), aI kd, aI ((uR (uR st (2 * j) []) (2 * j + 1) []).2.1 j 1), aI ((uR (uR st (2 * j) []) (2 * j + 1) []).2.1 j 2), aI ((uR (uR st (2 * j) []) (2 * j + 1) []).2.1 j 3), aI ((uR (uR st (2 * j) []) (2 * j + 1) []).2.1 j 4), aI ((uR (uR st (2 * j) []) (2 * j + 1) []).2.1 j 5)]) rfl rfl (hW.node hj) (hW.nodeb hj) (Nat.le_of_ble_eq_true rfl) rfl (by decide) rfl ?_
  generalize hg_hh3 : hput hh2 (g (400 + j)) (eO 0 [aR (g (2 * j)), aR (g (2 * j + 1)), aI kd, aI ((uR (uR st (2 * j) []) (2 * j + 1) []).2.1 j 1), aI ((uR (uR st (2 * j) []) (2 * j + 1) []).2.1 j 2), aI ((uR (uR st (2 * j) []) (2 * j + 1) []).2.1 j 3), aI ((uR (uR st (2 * j) []) (2 * j + 1) []).2.1 j 4), aI ((uR (uR st (2 * j) []) (2 * j + 1) []).2.1 j 5)]) = hh3
  have hW : WC K hh3 g (uN (uR (uR st (2 * j) []) (2 * j + 1) []) j 0 kd) cb sb := by
    rw [← hg_hh3]
    exact hW.setN hj (by simp [uN, va_up])
  refine g_aload_n rfl rfl ?_
  refine g_iload_n rfl rfl ?_
  refine g_put (ci := 0) (kk := 3) (fs' := [aR (g (2 * j)), aR (g (2 * j + 1)), aI ((uN (uR (uR st (2 * j) []) (2 * j + 1) []) j 0 kd).2.1 j 0), aI dr, aI ((uN (uR (uR st (2 * j) []) (2 * j + 1) []) j 0 kd).2.1 j 2), aI ((uN (uR (uR st (2 * j) []) (2 * j + 1) []) j 0 kd).2.1 j 3), aI ((uN (uR (uR st (2 * j) []) (2 * j + 1) []) j 0 kd).2.1 j 4), aI ((uN (uR (uR st (2 * j) []) (2 * j + 1) []) j 0 kd).2.1 j 5)]) rfl rfl (hW.node hj) (hW.nodeb hj) (Nat.le_of_ble_eq_true rfl) rfl (by decide) rfl ?_
  generalize hg_hh4 : hput hh3 (g (400 + j)) (eO 0 [aR (g (2 * j)), aR (g (2 * j + 1)), aI ((uN (uR (uR st (2 * j) []) (2 * j + 1) []) j 0 kd).2.1 j 0), aI dr, aI ((uN (uR (uR st (2 * j) []) (2 * j + 1) []) j 0 kd).2.1 j 2), aI ((uN (uR (uR st (2 * j) []) (2 * j + 1) []) j 0 kd).2.1 j 3), aI ((uN (uR (uR st (2 * j) []) (2 * j + 1) []) j 0 kd).2.1 j 4), aI ((uN (uR (uR st (2 * j) []) (2 * j + 1) []) j 0 kd).2.1 j 5)]) = hh4
  have hW : WC K hh4 g (uN (uN (uR (uR st (2 * j) []) (2 * j + 1) []) j 0 kd) j 1 dr) cb sb := by
    rw [← hg_hh4]
    exact hW.setN hj (by simp [uN, va_up])
  refine g_aload_n rfl rfl ?_
  refine g_iload_n rfl rfl ?_
  refine g_put (ci := 0) (kk := 4) (fs' := [aR (g (2 * j)), aR (g (2 * j + 1)), aI ((uN (uN (uR (uR st (2 * j) []) (2 * j + 1) []) j 0 kd) j 1 dr).2.1 j 0), aI ((uN (uN (uR (uR st (2 * j) []) (2 * j + 1) []) j 0 kd) j 1 dr).2.1 j 1), aI fl, aI ((uN (uN (uR (uR st (2 * j) []) (2 * j + 1) []) j 0 kd) j 1 dr).2.1 j 3), aI ((uN (uN (uR (uR st (2 * j) []) (2 * j + 1) []) j 0 kd) j 1 dr).2.1 j 4), aI ((uN (uN (uR (uR st (2 * j) []) (2 * j + 1) []) j 0 kd) j 1 dr).2.1 j 5)]) rfl rfl (hW.node hj) (hW.nodeb hj) (Nat.le_of_ble_eq_true rfl) rfl (by decide) rfl ?_
  generalize hg_hh5 : hput hh4 (g (400 + j)) (eO 0 [aR (g (2 * j)), aR (g (2 * j + 1)), aI ((uN (uN (uR (uR st (2 * j) []) (2 * j + 1) []) j 0 kd) j 1 dr).2.1 j 0), aI ((uN (uN (uR (uR st (2 * j) []) (2 * j + 1) []) j 0 kd) j 1 dr).2.1 j 1), aI fl, aI ((uN (uN (uR (uR st (2 * j) []) (2 * j + 1) []) j 0 kd) j 1 dr).2.1 j 3), aI ((uN (uN (uR (uR st (2 * j) []) (2 * j + 1) []) j 0 kd) j 1 dr).2.1 j 4), aI ((uN (uN (uR (uR st (2 * j) []) (2 * j + 1) []) j 0 kd) j 1 dr).2.1 j 5)]) = hh5
  have hW : WC K hh5 g (uN (uN (uN (uR (uR st (2 * j) []) (2 * j + 1) []) j 0 kd) j 1 dr) j 2 fl) cb sb := by
    rw [← hg_hh5]
    exact hW.setN hj (by simp [uN, va_up])
  refine g_aload_n rfl rfl ?_
  refine g_iconst (n := 0) rfl (by decide) ?_
  refine g_put (ci := 0) (kk := 5) (fs' := [aR (g (2 * j)), aR (g (2 * j + 1)), aI ((uN (uN (uN (uR (uR st (2 * j) []) (2 * j + 1) []) j 0 kd) j 1 dr) j 2 fl).2.1 j 0), aI ((uN (uN (uN (uR (uR st (2 * j) []) (2 * j + 1) []) j 0 kd) j 1 dr) j 2 fl).2.1 j 1), aI ((uN (uN (uN (uR (uR st (2 * j) []) (2 * j + 1) []) j 0 kd) j 1 dr) j 2 fl).2.1 j 2), aI 0, aI ((uN (uN (uN (uR (uR st (2 * j) []) (2 * j + 1) []) j 0 kd) j 1 dr) j 2 fl).2.1 j 4), aI ((uN (uN (uN (uR (uR st (2 * j) []) (2 * j + 1) []) j 0 kd) j 1 dr) j 2 fl).2.1 j 5)]) rfl rfl (hW.node hj) (hW.nodeb hj) (Nat.le_of_ble_eq_true rfl) rfl (by decide) rfl ?_
  generalize hg_hh6 : hput hh5 (g (400 + j)) (eO 0 [aR (g (2 * j)), aR (g (2 * j + 1)), aI ((uN (uN (uN (uR (uR st (2 * j) []) (2 * j + 1) []) j 0 kd) j 1 dr) j 2 fl).2.1 j 0), aI ((uN (uN (uN (uR (uR st (2 * j) []) (2 * j + 1) []) j 0 kd) j 1 dr) j 2 fl).2.1 j 1), aI ((uN (uN (uN (uR (uR st (2 * j) []) (2 * j + 1) []) j 0 kd) j 1 dr) j 2 fl).2.1 j 2), aI 0, aI ((uN (uN (uN (uR (uR st (2 * j) []) (2 * j + 1) []) j 0 kd) j 1 dr) j 2 fl).2.1 j 4), aI ((uN (uN (uN (uR (uR st (2 * j) []) (2 * j + 1) []) j 0 kd) j 1 dr) j 2 fl).2.1 j 5)]) = hh6
  have hW : WC K hh6 g (uN (uN (uN (uN (uR (uR st (2 * j) []) (2 * j + 1) []) j 0 kd) j 1 dr) j 2 fl) j 3 0) cb sb := by
    rw [← hg_hh6]
    exact hW.setN hj (by simp [uN, va_up])
  refine g_aload_n rfl rfl ?_
  refine g_iconst (n := 0) rfl (by decide) ?_
  refine g_put (ci := 0) (kk := 6) (fs' := [aR (g (2 * j)), aR (g (2 * j + 1)), aI ((uN (uN (uN (uN (uR (uR st (2 * j) []) (2 * j + 1) []) j 0 kd) j 1 dr) j 2 fl) j 3 0).2.1 j 0), aI ((uN (uN (uN (uN (uR (uR st (2 * j) []) (2 * j + 1) []) j 0 kd) j 1 dr) j 2 fl) j 3 0).2.1 j 1), aI ((uN (uN (uN (uN (uR (uR st (2 * j) []) (2 * j + 1) []) j 0 kd) j 1 dr) j 2 fl) j 3 0).2.1 j 2), aI ((uN (uN (uN (uN (uR (uR st (2 * j) []) (2 * j + 1) []) j 0 kd) j 1 dr) j 2 fl) j 3 0).2.1 j 3), aI 0, aI ((uN (uN (uN (uN (uR (uR st (2 * j) []) (2 * j + 1) []) j 0 kd) j 1 dr) j 2 fl) j 3 0).2.1 j 5)]) rfl rfl (hW.node hj) (hW.nodeb hj) (Nat.le_of_ble_eq_true rfl) rfl (by decide) rfl ?_
  generalize hg_hh7 : hput hh6 (g (400 + j)) (eO 0 [aR (g (2 * j)), aR (g (2 * j + 1)), aI ((uN (uN (uN (uN (uR (uR st (2 * j) []) (2 * j + 1) []) j 0 kd) j 1 dr) j 2 fl) j 3 0).2.1 j 0), aI ((uN (uN (uN (uN (uR (uR st (2 * j) []) (2 * j + 1) []) j 0 kd) j 1 dr) j 2 fl) j 3 0).2.1 j 1), aI ((uN (uN (uN (uN (uR (uR st (2 * j) []) (2 * j + 1) []) j 0 kd) j 1 dr) j 2 fl) j 3 0).2.1 j 2), aI ((uN (uN (uN (uN (uR (uR st (2 * j) []) (2 * j + 1) []) j 0 kd) j 1 dr) j 2 fl) j 3 0).2.1 j 3), aI 0, aI ((uN (uN (uN (uN (uR (uR st (2 * j) []) (2 * j + 1) []) j 0 kd) j 1 dr) j 2 fl) j 3 0).2.1 j 5)]) = hh7
  have hW : WC K hh7 g (uN (uN (uN (uN (uN (uR (uR st (2 * j) []) (2 * j + 1) []) j 0 kd) j 1 dr) j 2 fl) j 3 0) j 4 0) cb sb := by
    rw [← hg_hh7]
    exact hW.setN hj (by simp [uN, va_up])
  refine g_aload_n rfl rfl ?_
  refine g_iconst (n := 0) rfl (by decide) ?_
  refine g_put (ci := 0) (kk := 7) (fs' := [aR (g (2 * j)), aR (g (2 * j + 1)), aI ((uN (uN (uN (uN (uN (uR (uR st (2 * j) []) (2 * j + 1) []) j 0 kd) j 1 dr) j 2 fl) j 3 0) j 4 0).2.1 j 0), aI ((uN (uN (uN (uN (uN (uR (uR st (2 * j) []) (2 * j + 1) []) j 0 kd) j 1 dr) j 2 fl) j 3 0) j 4 0).2.1 j 1), aI ((uN (uN (uN (uN (uN (uR (uR st (2 * j) []) (2 * j + 1) []) j 0 kd) j 1 dr) j 2 fl) j 3 0) j 4 0).2.1 j 2), aI ((uN (uN (uN (uN (uN (uR (uR st (2 * j) []) (2 * j + 1) []) j 0 kd) j 1 dr) j 2 fl) j 3 0) j 4 0).2.1 j 3), aI ((uN (uN (uN (uN (uN (uR (uR st (2 * j) []) (2 * j + 1) []) j 0 kd) j 1 dr) j 2 fl) j 3 0) j 4 0).2.1 j 4), aI 0]) rfl rfl (hW.node hj) (hW.nodeb hj) (Nat.le_of_ble_eq_true rfl) rfl (by decide) rfl ?_
  generalize hg_hh8 : hput hh7 (g (400 + j)) (eO 0 [aR (g (2 * j)), aR (g (2 * j + 1)), aI ((uN (uN (uN (uN (uN (uR (uR st (2 * j) []) (2 * j + 1) []) j 0 kd) j 1 dr) j 2 fl) j 3 0) j 4 0).2.1 j 0), aI ((uN (uN (uN (uN (uN (uR (uR st (2 * j) []) (2 * j + 1) []) j 0 kd) j 1 dr) j 2 fl) j 3 0) j 4 0).2.1 j 1), aI ((uN (uN (uN (uN (uN (uR (uR st (2 * j) []) (2 * j + 1) []) j 0 kd) j 1 dr) j 2 fl) j 3 0) j 4 0).2.1 j 2), aI ((uN (uN (uN (uN (uN (uR (uR st (2 * j) []) (2 * j + 1) []) j 0 kd) j 1 dr) j 2 fl) j 3 0) j 4 0).2.1 j 3), aI ((uN (uN (uN (uN (uN (uR (uR st (2 * j) []) (2 * j + 1) []) j 0 kd) j 1 dr) j 2 fl) j 3 0) j 4 0).2.1 j 4), aI 0]) = hh8
  have hW : WC K hh8 g (uN (uN (uN (uN (uN (uN (uR (uR st (2 * j) []) (2 * j + 1) []) j 0 kd) j 1 dr) j 2 fl) j 3 0) j 4 0) j 5 0) cb sb := by
    rw [← hg_hh8]
    exact hW.setN hj (by simp [uN, va_up])
  exact r_v rfl rfl hW
theorem bgn_C (st : CS) (j : Nat) (kd dr fl : Int) : (bgn st j kd dr fl).2.2 = st.2.2 := rfl
theorem c_clear (hd3 : 3 ≤ d) (hW : WC K h g st cb sb) (ht : t < 2) : Cal d yTr_clear [aR (g (500 + t))] h (RV none (fun h2 => WC K h2 g (uC (bgn st (st.2.2.1 t 0) 0 (-1) (-1)) t 1) cb sb)) := by
  show Go _ _ 0 [aR (g (500 + t))] [] _ _
  refine g_aload_n rfl rfl ?_
  refine g_get (ci := 4) (kk := 0) rfl rfl (hW.tree ht) (hW.treeb ht) rfl ?_
  refine g_iconst (n := 0) rfl (by decide) ?_
  refine g_aald (b := g (400 + st.2.2.1 t 0)) rfl (hW.arr ht) (by decide) (hW.arrb ht) (by omega) (nar_t (by omega)) ?_
  refine g_iconst (n := 0) rfl (by decide) ?_
  refine g_iconst (n := -1) rfl (by decide) ?_
  refine g_iconst (n := -1) rfl (by decide) ?_
  refine g_Vn (z := yNd_begin) (e := 1) (A := [aI (-1), aI (-1), aI 0]) (rest := [])  rfl rfl rfl rfl rfl rfl (by omega) (hW.node (hW.pm ht (by omega))) (hW.nodeb (hW.pm ht (by omega))) (c_begin (by omega) hW (hW.pm ht (by omega)) _ _ _) ?_
  intro hh1 hW
  refine g_aload_n rfl rfl ?_
  refine g_iconst (n := 1) rfl (by decide) ?_
  refine g_put (ci := 4) (kk := 1) (fs' := [aR (g (510 + t)), aI 1, aR (g (520 + t))]) rfl rfl (hW.tree ht) (hW.treeb ht) (Nat.le_of_ble_eq_true rfl) rfl (by decide) rfl ?_
  generalize hg_hh2 : hput hh1 (g (500 + t)) (eO 4 [aR (g (510 + t)), aI 1, aR (g (520 + t))]) = hh2
  have hW : WC K hh2 g (uC (bgn st (st.2.2.1 t 0) 0 (-1) (-1)) t 1) cb sb := by
    rw [← hg_hh2]
    exact hW.setC ht (n := 1) (by omega)
  exact r_v rfl rfl hW
theorem bgn_row (st : CS) (j : Nat) (kd dr fl : Int) {r : Nat} (h1 : r ≠ 2 * j) (h2 : r ≠ 2 * j + 1) : (bgn st j kd dr fl).1 r = st.1 r := by
  show va_up (va_up st.1 (2 * j) []) (2 * j + 1) [] r = _
  simp [va_up, h1, h2]
theorem c_add (hd3 : 3 ≤ d) (hW : WC K h g st cb sb) (ht : t < 2) (hr : 120 ≤ r ∧ r < 125) (hc : (st.2.2.2.1 t) < 30) (dir kind file f e : Int) (h0 : 0 ≤ f) (h1 : f ≤ e) (h2 : e ≤ (st.1 r).length) : Cal d yTr_add [aR (g (500 + t)), aI dir, aI kind, aI file, aR (g r), aI f, aI e] h (RV (some (aI ((st.2.2.2.1 t)))) (fun h2 => WC K h2 g (trAdd st t r dir kind file f e) cb sb)) := by
  have hpm := hW.pm ht hc
  have hrow : (bgn st (st.2.2.1 t ((st.2.2.2.1 t))) kind dir file).1 r = st.1 r := bgn_row _ _ _ _ _ (by omega) (by omega)
  show Go _ _ 0 [aR (g (500 + t)), aI dir, aI kind, aI file, aR (g r), aI f, aI e] [] _ _
  refine g_aload_n rfl rfl ?_
  refine g_get (ci := 4) (kk := 1) rfl rfl (hW.tree ht) (hW.treeb ht) rfl ?_
  refine g_bipush (n := 30) rfl (by decide) ?_
  refine g_icmplt rfl rfl (fun c1 => ?_) (fun c => absurd c (by omega))
  refine g_aload_n rfl rfl ?_
  refine g_get (ci := 4) (kk := 0) rfl rfl (hW.tree ht) (hW.treeb ht) rfl ?_
  refine g_aload_n rfl rfl ?_
  refine g_get (ci := 4) (kk := 1) rfl rfl (hW.tree ht) (hW.treeb ht) rfl ?_
  refine g_aald (b := g (400 + st.2.2.1 t (((st.2.2.2.1 t))))) rfl (hW.arr ht) (by decide) (hW.arrb ht) (by omega) (nar_t (by omega)) ?_
  refine g_iload_n rfl rfl ?_
  refine g_iload_n rfl rfl ?_
  refine g_iload_n rfl rfl ?_
  refine g_Vn (z := yNd_begin) (e := 1) (A := [aI file, aI dir, aI kind]) (rest := [])  rfl rfl rfl rfl rfl rfl (by omega) (hW.node (hW.pm ht (by omega))) (hW.nodeb (hW.pm ht (by omega))) (c_begin (by omega) hW hpm _ _ _) ?_
  intro hh2 hW
  refine g_aload_n rfl rfl ?_
  refine g_get (ci := 4) (kk := 0) rfl rfl (hW.tree ht) (hW.treeb ht) rfl ?_
  refine g_aload_n rfl rfl ?_
  refine g_get (ci := 4) (kk := 1) rfl rfl (hW.tree ht) (hW.treeb ht) rfl ?_
  refine g_aald (b := g (400 + st.2.2.1 t ((st.2.2.2.1 t)))) rfl (hW.arr ht) (by decide) (hW.arrb ht) (by have e0 : (bgn st (st.2.2.1 t ((st.2.2.2.1 t))) kind dir file).2.2.2.1 t = (st.2.2.2.1 t) := rfl; omega) (nar_t (by have e0 : (bgn st (st.2.2.1 t ((st.2.2.2.1 t))) kind dir file).2.2.2.1 t = (st.2.2.2.1 t) := rfl; omega)) ?_
  refine g_get (ci := 0) (kk := 0) rfl rfl (hW.node hpm) (hW.nodeb hpm) rfl ?_
  refine g_aload rfl rfl ?_
  refine g_iload rfl rfl ?_
  refine g_iload rfl rfl ?_
  refine g_Vn (z := yRw_copySlice) (e := 1) (A := [aI e, aI f, aR (g r)]) (rest := [])  rfl rfl rfl rfl rfl rfl (by omega) (hW.row (by omega)) (hW.rowb (by omega)) (c_copySlice (by omega) hW (r := 2 * st.2.2.1 t ((st.2.2.2.1 t))) (r2 := r) (by omega) (by omega) (by omega) f e h0 h1 (by rw [hrow]; exact h2)) ?_
  intro hh3 hW
  rw [hrow] at hW
  have e1 : ((uR (bgn st (st.2.2.1 t ((st.2.2.2.1 t))) kind dir file) (2 * st.2.2.1 t ((st.2.2.2.1 t))) (cps (st.1 r) f e))).2.2.2.1 t = (st.2.2.2.1 t) := rfl
  refine g_aload_n rfl rfl ?_
  refine g_dup rfl rfl ?_
  refine g_get (ci := 4) (kk := 1) rfl rfl (hW.tree ht) (hW.treeb ht) rfl ?_
  refine g_iconst (n := 1) rfl (by decide) ?_
  refine g_iadd rfl (by omega) ?_
  refine g_put (ci := 4) (kk := 1) (fs' := [aR (g (510 + t)), aI (((((uR (bgn st (st.2.2.1 t ((st.2.2.2.1 t))) kind dir file) (2 * st.2.2.1 t ((st.2.2.2.1 t))) (cps (st.1 r) f e)).2.2.2.1 t) : Int)) + 1), aR (g (520 + t))]) rfl rfl (hW.tree ht) (hW.treeb ht) (Nat.le_of_ble_eq_true rfl) rfl (by decide) rfl ?_
  generalize hg_hh4 : hput hh3 (g (500 + t)) (eO 4 [aR (g (510 + t)), aI (((((uR (bgn st (st.2.2.1 t ((st.2.2.2.1 t))) kind dir file) (2 * st.2.2.1 t ((st.2.2.2.1 t))) (cps (st.1 r) f e)).2.2.2.1 t) : Int)) + 1), aR (g (520 + t))]) = hh4
  have hW : WC K hh4 g (trAdd st t r dir kind file f e) cb sb := by
    rw [← hg_hh4]
    exact hW.setC ht (n := (st.2.2.2.1 t) + 1) (by omega)
  have e2 : (trAdd st t r dir kind file f e).2.2.2.1 t = (st.2.2.2.1 t) + 1 := by simp [trAdd, uC, va_up]
  refine g_aload_n rfl rfl ?_
  refine g_get (ci := 4) (kk := 1) rfl rfl (hW.tree ht) (hW.treeb ht) rfl ?_
  refine g_iconst (n := 1) rfl (by decide) ?_
  refine g_isub rfl (by omega) ?_
  exact r_i rfl rfl (by omega) hW
theorem upl_stop {st : CS} {t n : Nat} {a : Int} (h : ¬ (0 < a ∧ a < (st.2.2.2.1 t))) : upl st t n a = [] := by
  cases n with
  | zero => rfl
  | succ n => unfold upl; rw [if_neg h]
theorem sp_loop (ht : t < 2) (hr : 120 ≤ r ∧ r < 125) (i0 : Int) : ∀ (n lv : Nat) (a fr : Int) (X rest : List Int) (h : AH), lv + n = 30 → WC K h g (uR st r X) cb sb → fr = (upl st t n a).length → X.length = (upl st t n a).length + rest.length → (∀ j, j < rest.length → X.getD (fr.toNat + j) 0 = rest.getD j 0) → Go (d + 2) yTr_spellPath 39 [aR (g (500 + t)), aI i0, aR (g r), aI fr, aI a, aI lv] [] h (RV none (fun h2 => WC K h2 g (uR st r (upl st t n a ++ rest)) cb sb)) := by
  intro n
  induction n with
  | zero =>
    intro lv a fr X rest h hlv hW hfr hX hre
    have e : upl st t 0 a ++ rest = X := by
      refine li_ext (by rw [List.length_append]; omega) (fun j hj => ?_)
      have e0 : fr.toNat = 0 := by rw [hfr]; rfl
      have := hre j (by rw [List.length_append] at hj; have : (upl st t 0 a).length = 0 := rfl; omega)
      rw [e0, Nat.zero_add] at this
      rw [this]
      rfl
    rw [e]
    refine g_iload rfl rfl ?_
    refine g_bipush (n := 30) rfl (by decide) ?_
    refine g_icmpge rfl rfl (fun c1 => ?_) (fun c => absurd c (by omega))
    exact r_v rfl rfl hW
  | succ n ih =>
    intro lv a fr X rest h hlv hW hfr hX hre
    have hcn := hW.cnt ht
    have hC : (uR st r X).2.2.2.1 t = (st.2.2.2.1 t) := rfl
    have hxl := hW.len (r := r) (by omega)
    rw [uR_get] at hxl
    by_cases hsa : 0 < a ∧ a < (st.2.2.2.1 t)
    · have hu : upl st t (n + 1) a = upl st t n ((st.2.1 (st.2.2.1 t a.toNat) 1)) ++ ((st.1 (2 * st.2.2.1 t a.toNat)) ++ (if n + 1 < 30 then [47] else [])) := by rw [upl, if_pos hsa]
      have hpm := hW.pm ht (i := a.toNat) (by omega)
      have hpm2 : st.2.2.1 t a.toNat < 60 := hpm
      have hnm : (uR st r X).1 (2 * (uR st r X).2.2.1 t a.toNat) = (st.1 (2 * st.2.2.1 t a.toNat)) := uR_ne _ _ (by show 2 * st.2.2.1 t a.toNat ≠ r; omega)
      have hnml : ((uR st r X).1 (2 * (uR st r X).2.2.1 t a.toNat)).length = ((st.1 (2 * st.2.2.1 t a.toNat))).length := by rw [hnm]
      rw [hu] at hfr hX ⊢
      generalize hU : upl st t n ((st.2.1 (st.2.2.1 t a.toNat) 1)) = U at *
      generalize hN : (st.1 (2 * st.2.2.1 t a.toNat)) = Nm at *
      by_cases hl0 : n + 1 < 30
      · rw [if_pos hl0] at hfr hX ⊢
        simp only [List.length_append, List.length_cons, List.length_nil] at hfr hX
        refine g_iload rfl rfl ?_
        refine g_bipush (n := 30) rfl (by decide) ?_
        refine g_icmpge rfl rfl (fun c => absurd c (by omega)) (fun c1 => ?_)
        refine g_iload rfl rfl ?_
        refine g_ifle rfl rfl (fun c => absurd c (by omega)) (fun c2 => ?_)
        refine g_aload_n rfl rfl ?_
        refine g_iload rfl rfl ?_
        refine g_V (z := yTr_has) (e := 1) (A := [aI a]) (rest := []) (v := aI (pz (hs (uR st r X) t a))) (P := fun h2 => h2 = h) rfl rfl rfl rfl rfl rfl (by omega) (hW.tree ht) (hW.treeb ht) (c_has hW ht a) ?_
        intro hh9 he9
        rw [he9]
        clear he9 hh9
        refine g_ifeq rfl rfl (fun c => absurd c (by rw [pz_t (show hs (uR st r X) t a from ⟨by omega, by omega⟩)]; decide)) (fun c3 => ?_)
        refine g_iload rfl rfl ?_
        refine g_ifle rfl rfl (fun c => absurd c (by omega)) (fun c4 => ?_)
        refine g_iinc (L' := [aR (g (500 + t)), aI i0, aR (g r), aI (fr + (-1)), aI a, aI ((lv : Int))]) rfl rfl (by omega) rfl ?_
        refine g_aload_n rfl rfl ?_
        refine g_iload_n rfl rfl ?_
        refine g_bipush (n := 47) rfl (by decide) ?_
        refine g_Vn (z := yRw_put) (e := 1) (A := [aI 47, aI (fr + (-1))]) (rest := [])  rfl rfl rfl rfl rfl rfl (by omega) (hW.row (by omega)) (hW.rowb (by omega)) (c_put hW (by omega) _ _) ?_
        intro hh5 hW
        rw [uR_uR, uR_get] at hW
        have hx1l : (rput X (fr + -1) 47).length = X.length := rput_len _ _ _
        have hC2 : (uR st r (rput X (fr + -1) 47)).2.2.2.1 t = (st.2.2.2.1 t) := rfl
        have hnm2 : (uR st r (rput X (fr + -1) 47)).1 (2 * (uR st r (rput X (fr + -1) 47)).2.2.1 t a.toNat) = Nm := by rw [← hN]; exact uR_ne _ _ (by show 2 * st.2.2.1 t a.toNat ≠ r; omega)
        have hnml2 : ((uR st r (rput X (fr + -1) 47)).1 (2 * (uR st r (rput X (fr + -1) 47)).2.2.1 t a.toNat)).length = Nm.length := by rw [hnm2]
        refine g_iload_n rfl rfl ?_
        refine g_aload_n rfl rfl ?_
        refine g_get (ci := 4) (kk := 0) rfl rfl (hW.tree ht) (hW.treeb ht) rfl ?_
        refine g_iload rfl rfl ?_
        refine g_aald (b := g (400 + (uR st r (rput X (fr + -1) 47)).2.2.1 t a.toNat)) rfl (hW.arr ht) (by decide) (hW.arrb ht) (by omega) (nar_t (by omega)) ?_
        refine g_get (ci := 0) (kk := 0) rfl rfl (hW.node (hW.pm ht (by omega))) (hW.nodeb (hW.pm ht (by omega))) rfl ?_
        refine g_get (ci := 2) (kk := 1) rfl rfl (hW.row (by have := hW.pm ht (i := a.toNat) (by omega); omega)) (hW.rowb (by have := hW.pm ht (i := a.toNat) (by omega); omega)) rfl ?_
        refine g_isub rfl (by omega) ?_
        refine g_istore_n (L' := [aR (g (500 + t)), aI i0, aR (g r), aI ((fr + (-1)) - ((((uR st r (rput X (fr + -1) 47)).1 (2 * (uR st r (rput X (fr + -1) 47)).2.2.1 t a.toNat)).length : Int))), aI a, aI ((lv : Int))]) rfl rfl ?_
        refine g_aload_n rfl rfl ?_
        refine g_iload_n rfl rfl ?_
        refine g_aload_n rfl rfl ?_
        refine g_get (ci := 4) (kk := 0) rfl rfl (hW.tree ht) (hW.treeb ht) rfl ?_
        refine g_iload rfl rfl ?_
        refine g_aald (b := g (400 + (uR st r (rput X (fr + -1) 47)).2.2.1 t a.toNat)) rfl (hW.arr ht) (by decide) (hW.arrb ht) (by omega) (nar_t (by omega)) ?_
        refine g_get (ci := 0) (kk := 0) rfl rfl (hW.node (hW.pm ht (by omega))) (hW.nodeb (hW.pm ht (by omega))) rfl ?_
        refine g_Vn (z := yRw_putAll) (e := 1) (A := [aR (g (2 * (uR st r (rput X (fr + -1) 47)).2.2.1 t a.toNat)), aI ((fr + (-1)) - ((((uR st r (rput X (fr + -1) 47)).1 (2 * (uR st r (rput X (fr + -1) 47)).2.2.1 t a.toNat)).length : Int)))]) (rest := [])  rfl rfl rfl rfl rfl rfl (by omega) (hW.row (by omega)) (hW.rowb (by omega)) (c_putAll (by omega) hW (r := r) (r2 := 2 * (uR st r (rput X (fr + -1) 47)).2.2.1 t a.toNat) (by omega) (by show 2 * st.2.2.1 t a.toNat < 125; omega) (by show 2 * st.2.2.1 t a.toNat ≠ r; omega) ((fr + (-1)) - ((((uR st r (rput X (fr + -1) 47)).1 (2 * (uR st r (rput X (fr + -1) 47)).2.2.1 t a.toNat)).length : Int))) (by omega) (by rw [uR_get]; omega)) ?_
        intro hh6 hW
        rw [uR_uR, uR_get, hnm2] at hW
        rw [hnm2]
        generalize hpp : fr + -1 - (Nm.length : Int) = p at hW ⊢
        have hX2 : ∀ j, j < (Nm ++ ([47] ++ rest)).length → (ovl (rput X (fr + -1) 47) p Nm).getD (p.toNat + j) 0 = (Nm ++ ([47] ++ rest)).getD j 0 := fun j hj => by
          simp only [List.length_append, List.length_cons, List.length_nil] at hj
          rw [ovl_get (by omega), getD_app]
          by_cases h1 : j < Nm.length
          · rw [if_pos ⟨by omega, by omega⟩, if_pos h1]
            congr 1
            omega
          · rw [if_neg (by omega), if_neg h1, getD_app]
            by_cases h2 : j - Nm.length < 1
            · rw [if_pos (by simp only [List.length_cons, List.length_nil]; omega), rput_get (by omega) (by omega), if_pos (by omega), show j - Nm.length = 0 by omega]
              decide
            · rw [if_neg (by simp only [List.length_cons, List.length_nil]; omega), rput_get (by omega) (by omega), if_neg (by omega)]
              have := hre (j - Nm.length - 1) (by omega)
              simp only [List.length_cons, List.length_nil]
              rw [← this]
              congr 1
              omega
        have hol : (ovl (rput X (fr + -1) 47) p Nm).length = (rput X (fr + -1) 47).length := ovl_len _ _ _
        generalize hY : ovl (rput X (fr + -1) 47) p Nm = Y at hW hX2 hol ⊢
        refine g_aload_n rfl rfl ?_
        refine g_get (ci := 4) (kk := 0) rfl rfl (hW.tree ht) (hW.treeb ht) rfl ?_
        refine g_iload rfl rfl ?_
        refine g_aald (b := g (400 + (uR st r Y).2.2.1 t a.toNat)) rfl (hW.arr ht) (by decide) (hW.arrb ht) (by omega) (nar_t (by omega)) ?_
        refine g_get (ci := 0) (kk := 3) rfl rfl (hW.node (hW.pm ht (by omega))) (hW.nodeb (hW.pm ht (by omega))) rfl ?_
        refine g_istore (L' := [aR (g (500 + t)), aI i0, aR (g r), aI p, aI (((uR st r Y).2.1 ((uR st r Y).2.2.1 t a.toNat) 1)), aI ((lv : Int))]) rfl rfl ?_
        refine g_iinc (L' := [aR (g (500 + t)), aI i0, aR (g r), aI p, aI (((uR st r Y).2.1 ((uR st r Y).2.2.1 t a.toNat) 1)), aI ((lv : Int) + 1)]) rfl rfl (by omega) rfl ?_
        refine g_goto rfl rfl ?_
        have h9 := ih (lv + 1) ((st.2.1 (st.2.2.1 t a.toNat) 1)) p Y (Nm ++ ([47] ++ rest)) _ (by omega) hW (by rw [hU]; omega) (by rw [hU]; simp only [List.length_append, List.length_cons, List.length_nil]; omega) hX2
        rw [hU, show U ++ (Nm ++ ([47] ++ rest)) = U ++ (Nm ++ [47]) ++ rest by simp] at h9
        exact h9
      · rw [if_neg hl0] at hfr hX ⊢
        simp only [List.length_append, List.length_nil] at hfr hX
        refine g_iload rfl rfl ?_
        refine g_bipush (n := 30) rfl (by decide) ?_
        refine g_icmpge rfl rfl (fun c => absurd c (by omega)) (fun c1 => ?_)
        refine g_iload rfl rfl ?_
        refine g_ifle rfl rfl (fun c => absurd c (by omega)) (fun c2 => ?_)
        refine g_aload_n rfl rfl ?_
        refine g_iload rfl rfl ?_
        refine g_V (z := yTr_has) (e := 1) (A := [aI a]) (rest := []) (v := aI (pz (hs (uR st r X) t a))) (P := fun h2 => h2 = h) rfl rfl rfl rfl rfl rfl (by omega) (hW.tree ht) (hW.treeb ht) (c_has hW ht a) ?_
        intro hh9 he9
        rw [he9]
        clear he9 hh9
        refine g_ifeq rfl rfl (fun c => absurd c (by rw [pz_t (show hs (uR st r X) t a from ⟨by omega, by omega⟩)]; decide)) (fun c3 => ?_)
        refine g_iload rfl rfl ?_
        refine g_ifle rfl rfl (fun c4 => ?_) (fun c => absurd c (by omega))
        refine g_iload_n rfl rfl ?_
        refine g_aload_n rfl rfl ?_
        refine g_get (ci := 4) (kk := 0) rfl rfl (hW.tree ht) (hW.treeb ht) rfl ?_
        refine g_iload rfl rfl ?_
        refine g_aald (b := g (400 + (uR st r X).2.2.1 t a.toNat)) rfl (hW.arr ht) (by decide) (hW.arrb ht) (by omega) (nar_t (by omega)) ?_
        refine g_get (ci := 0) (kk := 0) rfl rfl (hW.node (hW.pm ht (by omega))) (hW.nodeb (hW.pm ht (by omega))) rfl ?_
        refine g_get (ci := 2) (kk := 1) rfl rfl (hW.row (by have := hW.pm ht (i := a.toNat) (by omega); omega)) (hW.rowb (by have := hW.pm ht (i := a.toNat) (by omega); omega)) rfl ?_
        refine g_isub rfl (by omega) ?_
        refine g_istore_n (L' := [aR (g (500 + t)), aI i0, aR (g r), aI (fr - ((((uR st r X).1 (2 * (uR st r X).2.2.1 t a.toNat)).length : Int))), aI a, aI ((lv : Int))]) rfl rfl ?_
        refine g_aload_n rfl rfl ?_
        refine g_iload_n rfl rfl ?_
        refine g_aload_n rfl rfl ?_
        refine g_get (ci := 4) (kk := 0) rfl rfl (hW.tree ht) (hW.treeb ht) rfl ?_
        refine g_iload rfl rfl ?_
        refine g_aald (b := g (400 + (uR st r X).2.2.1 t a.toNat)) rfl (hW.arr ht) (by decide) (hW.arrb ht) (by omega) (nar_t (by omega)) ?_
        refine g_get (ci := 0) (kk := 0) rfl rfl (hW.node (hW.pm ht (by omega))) (hW.nodeb (hW.pm ht (by omega))) rfl ?_
        refine g_Vn (z := yRw_putAll) (e := 1) (A := [aR (g (2 * (uR st r X).2.2.1 t a.toNat)), aI (fr - ((((uR st r X).1 (2 * (uR st r X).2.2.1 t a.toNat)).length : Int)))]) (rest := [])  rfl rfl rfl rfl rfl rfl (by omega) (hW.row (by omega)) (hW.rowb (by omega)) (c_putAll (by omega) hW (r := r) (r2 := 2 * (uR st r X).2.2.1 t a.toNat) (by omega) (by show 2 * st.2.2.1 t a.toNat < 125; omega) (by show 2 * st.2.2.1 t a.toNat ≠ r; omega) (fr - ((((uR st r X).1 (2 * (uR st r X).2.2.1 t a.toNat)).length : Int))) (by omega) (by rw [uR_get]; omega)) ?_
        intro hh5 hW
        rw [uR_uR, uR_get, hnm] at hW
        rw [hnm]
        generalize hpp : fr - (Nm.length : Int) = p at hW ⊢
        have hX2 : ∀ j, j < (Nm ++ ([] ++ rest)).length → (ovl X p Nm).getD (p.toNat + j) 0 = (Nm ++ ([] ++ rest)).getD j 0 := fun j hj => by
          simp only [List.length_append, List.length_cons, List.length_nil] at hj
          rw [ovl_get (by omega), getD_app]
          by_cases h1 : j < Nm.length
          · rw [if_pos ⟨by omega, by omega⟩, if_pos h1]
            congr 1
            omega
          · rw [if_neg (by omega), if_neg h1, getD_app]
            rw [if_neg (by simp)]
            have := hre (j - Nm.length) (by omega)
            simp only [List.length_nil, Nat.sub_zero]
            rw [← this]
            congr 1
            omega
        have hol : (ovl X p Nm).length = X.length := ovl_len _ _ _
        generalize hY : ovl X p Nm = Y at hW hX2 hol ⊢
        refine g_aload_n rfl rfl ?_
        refine g_get (ci := 4) (kk := 0) rfl rfl (hW.tree ht) (hW.treeb ht) rfl ?_
        refine g_iload rfl rfl ?_
        refine g_aald (b := g (400 + (uR st r Y).2.2.1 t a.toNat)) rfl (hW.arr ht) (by decide) (hW.arrb ht) (by omega) (nar_t (by omega)) ?_
        refine g_get (ci := 0) (kk := 3) rfl rfl (hW.node (hW.pm ht (by omega))) (hW.nodeb (hW.pm ht (by omega))) rfl ?_
        refine g_istore (L' := [aR (g (500 + t)), aI i0, aR (g r), aI p, aI (((uR st r Y).2.1 ((uR st r Y).2.2.1 t a.toNat) 1)), aI ((lv : Int))]) rfl rfl ?_
        refine g_iinc (L' := [aR (g (500 + t)), aI i0, aR (g r), aI p, aI (((uR st r Y).2.1 ((uR st r Y).2.2.1 t a.toNat) 1)), aI ((lv : Int) + 1)]) rfl rfl (by omega) rfl ?_
        refine g_goto rfl rfl ?_
        have h9 := ih (lv + 1) ((st.2.1 (st.2.2.1 t a.toNat) 1)) p Y (Nm ++ ([] ++ rest)) _ (by omega) hW (by rw [hU]; omega) (by rw [hU]; simp only [List.length_append, List.length_cons, List.length_nil]; omega) hX2
        rw [hU, show U ++ (Nm ++ ([] ++ rest)) = U ++ (Nm ++ []) ++ rest by simp] at h9
        exact h9
    · have e : upl st t (n + 1) a ++ rest = X := by
        rw [upl_stop hsa] at hfr hX ⊢
        refine li_ext (by rw [List.length_append]; omega) (fun j hj => ?_)
        have e0 : fr.toNat = 0 := by rw [hfr]; rfl
        have := hre j (by simpa using hj)
        rw [e0, Nat.zero_add] at this
        rw [this]
        rfl
      rw [e]
      refine g_iload rfl rfl ?_
      refine g_bipush (n := 30) rfl (by decide) ?_
      refine g_icmpge rfl rfl (fun c => absurd c (by omega)) (fun c1 => ?_)
      refine g_iload rfl rfl ?_
      refine g_ifle rfl rfl (fun c2 => ?_) (fun c2 => ?_)
      · skip
        exact r_v rfl rfl hW
      · skip
        refine g_aload_n rfl rfl ?_
        refine g_iload rfl rfl ?_
        refine g_V (z := yTr_has) (e := 1) (A := [aI a]) (rest := []) (v := aI (pz (hs (uR st r X) t a))) (P := fun h2 => h2 = h) rfl rfl rfl rfl rfl rfl (by omega) (hW.tree ht) (hW.treeb ht) (c_has hW ht a) ?_
        intro hh9 he9
        rw [he9]
        clear he9 hh9
        refine g_ifeq rfl rfl (fun c3 => ?_) (fun c => absurd c (by intro q; exact q (pz_f (fun z => by have := z.1; have := z.2; omega))))
        exact r_v rfl rfl hW
theorem c_spellPath (hd2 : 2 ≤ d) (hW : WC K h g st cb sb) (ht : t < 2) (hr : 120 ≤ r ∧ r < 125) (i : Int) (hl : (pth st t i).length ≤ 10240) : Cal d yTr_spellPath [aR (g (500 + t)), aI i, aR (g r)] h (RV none (fun h2 => WC K h2 g (uR st r (pth st t i)) cb sb)) := by
  obtain ⟨d, rfl⟩ : ∃ e, d = e + 2 := ⟨d - 2, by omega⟩
  have hpl := pln_pth st t i
  show Go _ _ 0 [aR (g (500 + t)), aI i, aR (g r), none, none, none] [] _ _
  refine g_aload_n rfl rfl ?_
  refine g_aload_n rfl rfl ?_
  refine g_iload_n rfl rfl ?_
  refine g_V (z := yTr_pathLength) (e := 1) (A := [aI i]) (rest := [aR (g r)]) (v := aI (pln st t i)) (P := fun h2 => h2 = h) rfl rfl rfl rfl rfl rfl (by omega) (hW.tree ht) (hW.treeb ht) (c_pathLength (by omega) hW ht i) ?_
  intro hh9 he9
  rw [he9]
  clear he9 hh9
  refine g_Vn (z := yRw_resize) (e := 1) (A := [aI (pln st t i)]) (rest := [])  rfl rfl rfl rfl rfl rfl (by omega) (hW.row (by omega)) (hW.rowb (by omega)) (c_resize (by omega) hW (by omega) _) ?_
  intro hh1 hW
  rw [hpl, rsz_oF _ (by omega) (by omega), Int.toNat_natCast] at hW
  have hrl : ((uR st r (oF (pth st t i).length (fun j => (st.1 r).getD j 0))).1 r).length = (pth st t i).length := by rw [uR_get, oF_len]
  refine g_aload_n rfl rfl ?_
  refine g_get (ci := 2) (kk := 1) rfl rfl (hW.row (by omega)) (hW.rowb (by omega)) rfl ?_
  refine g_istore_n (L' := [aR (g (500 + t)), aI i, aR (g r), aI ((((uR st r (oF (pth st t i).length (fun j => (st.1 r).getD j 0))).1 r).length : Int)), none, none]) rfl rfl ?_
  refine g_aload_n rfl rfl ?_
  refine g_iload_n rfl rfl ?_
  refine g_iconst (n := 0) rfl (by decide) ?_
  refine g_V (z := yTr_isOfKind) (e := 1) (A := [aI 0, aI i]) (rest := []) (v := aI (pz (isK (uR st r (oF (pth st t i).length (fun j => (st.1 r).getD j 0))) t i 0))) (P := fun h2 => h2 = hh1) rfl rfl rfl rfl rfl rfl (by omega) (hW.tree ht) (hW.treeb ht) (c_isOfKind hW ht i 0) ?_
  intro hh9 he9
  rw [he9]
  clear he9 hh9
  have hKe : pz (isK (uR st r (oF (pth st t i).length (fun j => (st.1 r).getD j 0))) t i 0) = pz (isK st t i 0) := rfl
  rw [hKe]
  refine g_ifeq rfl rfl (fun c2 => ?_) (fun c2 => ?_)
  · skip
    have cK := c2
    refine g_iload_n rfl rfl ?_
    refine g_istore (L' := [aR (g (500 + t)), aI i, aR (g r), aI ((((uR st r (oF (pth st t i).length (fun j => (st.1 r).getD j 0))).1 r).length : Int)), aI i, none]) rfl rfl ?_
    refine g_iconst (n := 0) rfl (by decide) ?_
    refine g_istore (L' := [aR (g (500 + t)), aI i, aR (g r), aI ((((uR st r (oF (pth st t i).length (fun j => (st.1 r).getD j 0))).1 r).length : Int)), aI i, aI 0]) rfl rfl ?_
    have hK : ¬ isK st t i 0 := pz_eq cK
    have hp : pth st t i = upl st t 30 i ++ [] := by unfold pth; rw [@if_neg _ (Classical.propDecidable _) hK]
    have hpl2 : (pth st t i).length = (upl st t 30 i).length := by rw [hp]; simp
    have h9 := sp_loop (d := d) ht hr i 30 0 i ((((uR st r (oF (pth st t i).length (fun j => (st.1 r).getD j 0))).1 r).length : Int)) _ [] _ rfl hW (by omega) (by rw [oF_len, hpl2]; simp) (fun j hj => absurd hj (Nat.not_lt_zero _))
    rw [← hp] at h9
    exact h9
  · skip
    have cK := c2
    refine g_iinc (L' := [aR (g (500 + t)), aI i, aR (g r), aI ((((uR st r (oF (pth st t i).length (fun j => (st.1 r).getD j 0))).1 r).length : Int) + (-1)), none, none]) rfl rfl (by omega) rfl ?_
    refine g_aload_n rfl rfl ?_
    refine g_iload_n rfl rfl ?_
    refine g_bipush (n := 47) rfl (by decide) ?_
    refine g_Vn (z := yRw_put) (e := 1) (A := [aI 47, aI ((((uR st r (oF (pth st t i).length (fun j => (st.1 r).getD j 0))).1 r).length : Int) + (-1))]) (rest := [])  rfl rfl rfl rfl rfl rfl (by omega) (hW.row (by omega)) (hW.rowb (by omega)) (c_put hW (by omega) _ _) ?_
    intro hh3 hW
    rw [uR_uR, uR_get] at hW
    refine g_iload_n rfl rfl ?_
    refine g_istore (L' := [aR (g (500 + t)), aI i, aR (g r), aI ((((uR st r (oF (pth st t i).length (fun j => (st.1 r).getD j 0))).1 r).length : Int) + (-1)), aI i, none]) rfl rfl ?_
    refine g_iconst (n := 0) rfl (by decide) ?_
    refine g_istore (L' := [aR (g (500 + t)), aI i, aR (g r), aI ((((uR st r (oF (pth st t i).length (fun j => (st.1 r).getD j 0))).1 r).length : Int) + (-1)), aI i, aI 0]) rfl rfl ?_
    have hol := oF_len (pth st t i).length (fun j => (st.1 r).getD j 0)
    have hK : isK st t i 0 := pz_ne cK
    have hp : pth st t i = upl st t 30 i ++ [47] := by unfold pth; rw [@if_pos _ (Classical.propDecidable _) hK]
    have hpl2 : (pth st t i).length = (upl st t 30 i).length + 1 := by rw [hp]; simp
    have h9 := sp_loop (d := d) ht hr i 30 0 i ((((uR st r (oF (pth st t i).length (fun j => (st.1 r).getD j 0))).1 r).length : Int) + (-1)) _ [47] _ rfl hW (by omega) (by rw [rput_len, oF_len]; simp only [List.length_cons, List.length_nil]; omega) (fun j hj => by
      have hj0 : j = 0 := by simpa using hj
      rw [rput_get (by omega) (by omega), if_pos (by omega), hj0]
      decide)
    rw [← hp] at h9
    exact h9
end Tree2C
