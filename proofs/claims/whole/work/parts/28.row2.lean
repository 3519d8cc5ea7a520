/-! Contracts of the rows' methods, 2. -/
/-- a truth as a number -/
noncomputable def pz (p : Prop) : Int := @ite Int p (Classical.propDecidable p) 1 0
theorem pz_t {p : Prop} (h : p) : pz p = 1 := @if_pos p (Classical.propDecidable p) h Int 1 0
theorem pz_f {p : Prop} (h : ¬ p) : pz p = 0 := @if_neg p (Classical.propDecidable p) h Int 1 0
theorem pz01 (p : Prop) : pz p = 0 ∨ pz p = 1 := by
  by_cases h : p
  · exact Or.inr (pz_t h)
  · exact Or.inl (pz_f h)
theorem pz_ne {p : Prop} (h : pz p ≠ 0) : p := by
  by_cases hp : p
  · exact hp
  · exact absurd (pz_f hp) h
theorem pz_eq {p : Prop} (h : pz p = 0) : ¬ p := by
  intro hp
  rw [pz_t hp] at h
  exact absurd h (by decide)
theorem pz_congr {p q : Prop} (h : p ↔ q) : pz p = pz q := by rw [propext h]
theorem pz_1 {p : Prop} (h : pz p = 1) : p := pz_ne (by rw [h]; decide)
def oF (m : Nat) (f : Nat → Int) : List Int := (List.range m).map f
theorem oF_len (m : Nat) (f : Nat → Int) : (oF m f).length = m := by simp [oF]
theorem oF_get {m j : Nat} {f : Nat → Int} (h : j < m) : (oF m f).getD j 0 = f j := by simp [oF, List.getD_eq_getElem?_getD, h]
theorem oF_ext {m : Nat} {f f' : Nat → Int} (h : ∀ j, j < m → f j = f' j) : oF m f = oF m f' := List.map_congr_left fun j hj => h j (List.mem_range.mp hj)
theorem li_ext {l m : List Int} (hl : l.length = m.length) (h : ∀ j, j < l.length → l.getD j 0 = m.getD j 0) : l = m := by
  refine List.ext_getElem hl fun j h1 h2 => ?_
  have := h j h1
  simpa [List.getD_eq_getElem?_getD, h1, h2] using this
theorem oF_of (l : List Int) : oF l.length (fun j => l.getD j 0) = l := li_ext (oF_len _ _) fun j hj => oF_get (by rw [oF_len] at hj; exact hj)
theorem rat_in {l : List Int} {i : Int} (h0 : 0 ≤ i) (h1 : i < l.length) : rat l i = l.getD i.toNat 0 % 256 := by
  unfold rat
  rw [if_pos ⟨h0, h1⟩]
theorem rat_out {l : List Int} {i : Int} (h : ¬ (0 ≤ i ∧ i < l.length)) : rat l i = -1 := by
  unfold rat
  rw [if_neg h]
theorem rat_r (l : List Int) (i : Int) : -1 ≤ rat l i ∧ rat l i ≤ 255 := by
  unfold rat
  split <;> omega
theorem rput_oF {m : Nat} {f : Nat → Int} {i b : Int} (h0 : 0 ≤ i) (h1 : i < m) : rput (oF m f) i b = oF m (va_up f i.toNat (a8 b)) := by
  refine li_ext (by rw [rput_len, oF_len, oF_len]) fun j hj => ?_
  rw [rput_len, oF_len] at hj
  unfold rput
  rw [if_pos (by rw [oF_len]; exact ⟨h0, h1⟩), getD_set (by rw [oF_len]; omega), oF_get hj, oF_get hj]
  unfold va_up
  rfl
theorem rsz_oF (l : List Int) {n : Int} (h0 : 0 ≤ n) (h1 : n ≤ 10240) : rsz l n = oF n.toNat (fun j => l.getD j 0) := by
  have e : rcl n = n := by
    unfold rcl
    split
    · omega
    · split <;> omega
  refine li_ext (by rw [rsz_len, oF_len, e]) fun j hj => ?_
  rw [rsz_len, e] at hj
  rw [rsz_get, e, if_pos hj, oF_get hj]
theorem rsz_0 (l : List Int) : rsz l 0 = [] := by
  rw [rsz_oF l (by decide) (by decide)]
  rfl
theorem getD_r8 {l : List Int} (h : ∀ v ∈ l, r8 v) (j : Nat) : r8 (l.getD j 0) := by
  rw [List.getD_eq_getElem?_getD]
  cases hj : l[j]? with
  | none => exact ⟨by decide, by decide⟩
  | some v => exact h v (List.mem_of_getElem? hj)
theorem a8_mod256 {v : Int} (h : r8 v) : a8 (v % 256) = v := by
  rw [← a8_of h]
  exact a8_mod (by rw [a8_256]; omega)
/-- letters behind a row -/
def addl (l : List Int) (w n : Int) : List Int := oF (l.length + n.toNat) (fun j => if j < l.length then l.getD j 0 else a8 (lb w (j - l.length)))
def cps (m : List Int) (f t : Int) : List Int := oF (t - f).toNat (fun j => m.getD (f.toNat + j) 0)
def ovl (l : List Int) (p : Int) (m : List Int) : List Int := oF l.length (fun j => if p.toNat ≤ j ∧ j < p.toNat + m.length then m.getD (j - p.toNat) 0 else l.getD j 0)
def sli (l m : List Int) (f t : Int) : Prop := 0 ≤ f ∧ t ≤ m.length ∧ (l.length : Int) = t - f ∧ ∀ j, j < l.length → l.getD j 0 = m.getD (f.toNat + j) 0
def cmpv : List Int → List Int → Int
  | a :: l, b :: m => if a % 256 = b % 256 then cmpv l m else a % 256 - b % 256
  | l, m => (l.length : Int) - m.length
def ltr (v : Int) : Prop := 33 ≤ v % 256 ∧ v % 256 ≤ 126 ∧ v % 256 ≠ 47
def tgt (l : List Int) : Prop := ∀ j, j < l.length → 33 ≤ l.getD j 0 % 256 ∧ l.getD j 0 % 256 ≤ 126
def nmix (l : List Int) (f t : Int) : Prop := (∀ j : Nat, f ≤ j → (j : Int) < t → ltr (l.getD j 0)) ∧ f < t ∧ ¬ ((∀ j : Nat, f ≤ j → (j : Int) < t → l.getD j 0 % 256 = 46) ∧ t - f ≤ 2)
def lsl (l : List Int) : Nat → Int
  | 0 => -1
  | k + 1 => if l.getD k 0 % 256 = 47 then k else lsl l k
theorem drop_cons {l : List Int} {i : Nat} (h : i < l.length) : l.drop i = l.getD i 0 :: l.drop (i + 1) := by
  rw [List.drop_eq_getElem_cons h]
  simp [List.getD_eq_getElem?_getD, h]
theorem cmpv_nil {l m : List Int} (h : l = [] ∨ m = []) : cmpv l m = (l.length : Int) - m.length := by
  rcases h with rfl | rfl
  · cases m <;> rfl
  · cases l <;> rfl
theorem a8_let {w : Int} {i : Int} (h0 : 0 ≤ i) (h1 : i < 8) : a8 (a32 (a_lushr w (8 * i))) = a8 (lb w i.toNat) := by
  have e : (8 * i) = 8 * ((i.toNat : Nat) : Int) := by omega
  refine a8_mod ?_
  rw [a32_256, e, a_lushr8 (by omega)]
  unfold lb
  omega
section RowC2
variable {K : KE} {h : AH} {g : Nat → Nat} {st : CS} {cb sb : Nat} {r r2 d : Nat}
theorem al_loop (hr : r < 125) (w n : Int) (l : List Int) (hn0 : 0 ≤ n) (hn8 : n ≤ 8) (hl : l.length + n ≤ 10240) (h8 : ∀ v ∈ l, r8 v) : ∀ (k : Nat) (i : Int) (h : AH), 0 ≤ i → i ≤ n → (n - i).toNat ≤ k → WC K h g (uR st r (oF (l.length + n.toNat) (fun j => if j < l.length then l.getD j 0 else if j < l.length + i.toNat then a8 (lb w (j - l.length)) else 0))) cb sb → Go (d + 1) yRw_addLetters 17 [aR (g r), aL w, none, aI n, aI l.length, aI i] [] h (RV none (fun h2 => WC K h2 g (uR st r (addl l w n)) cb sb)) := by
  intro k
  induction k with
  | zero =>
    intro i h h0 h1 hk hW
    have e : (addl l w n) = (oF (l.length + n.toNat) (fun j => if j < l.length then l.getD j 0 else if j < l.length + i.toNat then a8 (lb w (j - l.length)) else 0)) := oF_ext fun j hj => by
      split
      · rfl
      · rw [if_pos (by omega)]
    rw [e]
    refine g_iload rfl rfl ?_
    refine g_iload_n rfl rfl ?_
    refine g_icmpge rfl rfl (fun c1 => ?_) (fun c => absurd c (by omega))
    exact r_v rfl rfl hW
  | succ k ih =>
    intro i h h0 h1 hk hW
    by_cases hi : i = n
    · have e : (addl l w n) = (oF (l.length + n.toNat) (fun j => if j < l.length then l.getD j 0 else if j < l.length + i.toNat then a8 (lb w (j - l.length)) else 0)) := oF_ext fun j hj => by
        split
        · rfl
        · rw [if_pos (by omega)]
      rw [e]
      refine g_iload rfl rfl ?_
      refine g_iload_n rfl rfl ?_
      refine g_icmpge rfl rfl (fun c1 => ?_) (fun c => absurd c (by omega))
      exact r_v rfl rfl hW
    · skip
      refine g_iload rfl rfl ?_
      refine g_iload_n rfl rfl ?_
      refine g_icmpge rfl rfl (fun c => absurd c (by omega)) (fun c1 => ?_)
      refine g_iload rfl rfl ?_
      refine g_bipush (n := 8) rfl (by decide) ?_
      refine g_icmpge rfl rfl (fun c => absurd c (by omega)) (fun c2 => ?_)
      refine g_aload_n rfl rfl ?_
      refine g_iload rfl rfl ?_
      refine g_iload rfl rfl ?_
      refine g_iadd rfl (by omega) ?_
      refine g_lload_n rfl rfl ?_
      refine g_bipush (n := 8) rfl (by decide) ?_
      refine g_iload rfl rfl ?_
      refine g_imul rfl (by omega) ?_
      refine g_lushr (v := a_lushr w (8 * i)) rfl rfl ?_
      refine g_l2i (v := a32 (a_lushr w (8 * i))) rfl rfl ?_
      refine g_Vn (z := yRw_put) (e := 1) (A := [aI (a32 (a_lushr w (8 * i))), aI ((((l.length : Nat) : Int)) + i)]) (rest := [])  rfl rfl rfl rfl rfl rfl (by omega) (hW.row hr) (hW.rowb hr) (c_put hW hr _ _) ?_
      intro hh3 hW2
      rw [uR_uR, uR_get, rput_oF (by omega) (by omega)] at hW2
      have e : oF (l.length + n.toNat) (va_up (fun j => if j < l.length then l.getD j 0 else if j < l.length + i.toNat then a8 (lb w (j - l.length)) else 0) (((l.length : Nat) : Int) + i).toNat (a8 (a32 (a_lushr w (8 * i))))) = oF (l.length + n.toNat) (fun j => if j < l.length then l.getD j 0 else if j < l.length + (i + 1).toNat then a8 (lb w (j - l.length)) else 0) := oF_ext fun j hj => by
        unfold va_up
        by_cases h3 : j = (((l.length : Nat) : Int) + i).toNat
        · rw [if_pos h3, if_neg (by omega), if_pos (by omega), a8_let h0 (by omega)]
          congr 2
          omega
        · rw [if_neg h3]
          dsimp only
          by_cases h5 : j < l.length
          · rw [if_pos h5, if_pos h5]
          · rw [if_neg h5, if_neg h5]
            by_cases h4 : j < l.length + i.toNat
            · rw [if_pos h4, if_pos (by omega)]
            · rw [if_neg h4, if_neg (by omega)]
      rw [e] at hW2
      refine g_iinc (L' := [aR (g r), aL w, none, aI n, aI (((l.length : Nat) : Int)), aI (i + 1)]) rfl rfl (by omega) rfl ?_
      refine g_goto rfl rfl ?_
      exact ih (i + 1) _ (by omega) (by omega) (by omega) hW2
theorem c_addLetters (hd2 : 2 ≤ d) (hW : WC K h g st cb sb) (hr : r < 125) (w n : Int) (hn0 : 0 ≤ n) (hn8 : n ≤ 8) (hl : (st.1 r).length + n ≤ 10240) : Cal d yRw_addLetters [aR (g r), aL w, aI n] h (RV none (fun h2 => WC K h2 g (uR st r (addl (st.1 r) w n)) cb sb)) := by
  obtain ⟨d, rfl⟩ : ∃ e, d = e + 1 := ⟨d - 1, by omega⟩
  have h8 := hW.r8 hr
  show Go _ _ 0 [aR (g r), aL w, none, aI n, none, none] [] _ _
  refine g_aload_n rfl rfl ?_
  refine g_get (ci := 2) (kk := 1) rfl rfl (hW.row hr) (hW.rowb hr) rfl ?_
  refine g_istore (L' := [aR (g r), aL w, none, aI n, aI ((((st.1 r).length : Nat) : Int)), none]) rfl rfl ?_
  refine g_aload_n rfl rfl ?_
  refine g_iload rfl rfl ?_
  refine g_iload_n rfl rfl ?_
  refine g_iadd rfl (by omega) ?_
  refine g_Vn (z := yRw_resize) (e := 1) (A := [aI (((((st.1 r).length : Nat) : Int)) + n)]) (rest := [])  rfl rfl rfl rfl rfl rfl (by omega) (hW.row hr) (hW.rowb hr) (c_resize (by omega) hW hr _) ?_
  intro hh1 hW2
  rw [rsz_oF _ (by omega) (by omega)] at hW2
  have e : oF ((((st.1 r).length : Nat) : Int) + n).toNat (fun j => (st.1 r).getD j 0) = oF ((st.1 r).length + n.toNat) (fun j => if j < (st.1 r).length then (st.1 r).getD j 0 else if j < (st.1 r).length + (0 : Int).toNat then a8 (lb w (j - (st.1 r).length)) else 0) := by
    rw [show ((((st.1 r).length : Nat) : Int) + n).toNat = (st.1 r).length + n.toNat by omega]
    refine oF_ext fun j hj => ?_
    split
    · rfl
    · rw [if_neg (by simp; omega), getD_ge (by omega)]
  rw [e] at hW2
  refine g_iconst (n := 0) rfl (by decide) ?_
  refine g_istore (L' := [aR (g r), aL w, none, aI n, aI ((((st.1 r).length : Nat) : Int)), aI 0]) rfl rfl ?_
  exact al_loop (d := d) hr w n (st.1 r) hn0 hn8 hl h8 (n.toNat) 0 _ (by omega) (by omega) (by omega) hW2
theorem cp_loop (hr : r < 125) (hr2 : r2 < 125) (hne : r2 ≠ r) (f t : Int) (m : List Int) (h8 : ∀ v ∈ m, r8 v) (hm : st.1 r2 = m) (h0 : 0 ≤ f) (h1 : f ≤ t) (h2 : t ≤ m.length) (hml : m.length ≤ 10240) (ht : t - f ≤ 10240) (q : Nat → Int) : ∀ (k : Nat) (i : Int) (h : AH), 0 ≤ i → i ≤ t - f → (t - f - i).toNat ≤ k → WC K h g (uR st r (oF (t - f).toNat (fun j => if j < i.toNat then m.getD (f.toNat + j) 0 else q j))) cb sb → Go (d + 1) yRw_copySlice 10 [aR (g r), aR (g r2), aI f, aI t, aI i] [] h (RV none (fun h2 => WC K h2 g (uR st r (cps m f t)) cb sb)) := by
  intro k
  induction k with
  | zero =>
    intro i h hi0 hi1 hk hW
    have e : cps m f t = oF (t - f).toNat (fun j => if j < i.toNat then m.getD (f.toNat + j) 0 else q j) := oF_ext fun j hj => by rw [if_pos (by omega)]
    rw [e]
    refine g_iload rfl rfl ?_
    refine g_aload_n rfl rfl ?_
    refine g_get (ci := 2) (kk := 1) rfl rfl (hW.row hr) (hW.rowb hr) rfl ?_
    rw [uR_get, oF_len]
    refine g_icmpge rfl rfl (fun c1 => ?_) (fun c => absurd c (by omega))
    exact r_v rfl rfl hW
  | succ k ih =>
    intro i h hi0 hi1 hk hW
    by_cases hi : i = t - f
    · have e : cps m f t = oF (t - f).toNat (fun j => if j < i.toNat then m.getD (f.toNat + j) 0 else q j) := oF_ext fun j hj => by rw [if_pos (by omega)]
      rw [e]
      refine g_iload rfl rfl ?_
      refine g_aload_n rfl rfl ?_
      refine g_get (ci := 2) (kk := 1) rfl rfl (hW.row hr) (hW.rowb hr) rfl ?_
      rw [uR_get, oF_len]
      refine g_icmpge rfl rfl (fun c1 => ?_) (fun c => absurd c (by omega))
      exact r_v rfl rfl hW
    · skip
      refine g_iload rfl rfl ?_
      refine g_aload_n rfl rfl ?_
      refine g_get (ci := 2) (kk := 1) rfl rfl (hW.row hr) (hW.rowb hr) rfl ?_
      rw [uR_get, oF_len]
      refine g_icmpge rfl rfl (fun c => absurd c (by omega)) (fun c1 => ?_)
      refine g_aload_n rfl rfl ?_
      refine g_iload rfl rfl ?_
      refine g_aload_n rfl rfl ?_
      refine g_iload_n rfl rfl ?_
      refine g_iload rfl rfl ?_
      refine g_iadd rfl (by omega) ?_
      refine g_V (z := yRw_at) (e := 1) (A := [aI (f + i)]) (rest := [aI i, aR (g r)]) (v := aI (rat ((uR st r (oF (t - f).toNat (fun j => if j < i.toNat then m.getD (f.toNat + j) 0 else q j))).1 r2) (f + i))) (P := fun h2 => h2 = h) rfl rfl rfl rfl rfl rfl (by omega) (hW.row hr2) (hW.rowb hr2) (c_at hW hr2 _) ?_
      intro hh9 he9
      rw [he9]
      clear he9 hh9
      refine g_Vn (z := yRw_put) (e := 1) (A := [aI (rat ((uR st r (oF (t - f).toNat (fun j => if j < i.toNat then m.getD (f.toNat + j) 0 else q j))).1 r2) (f + i)), aI i]) (rest := [])  rfl rfl rfl rfl rfl rfl (by omega) (hW.row hr) (hW.rowb hr) (c_put hW hr _ _) ?_
      intro hh2 hW2
      rw [uR_uR, uR_get, uR_ne _ _ hne, hm, rat_in (by omega) (by omega), rput_oF (by omega) (by omega), a8_mod256 (getD_r8 h8 _)] at hW2
      have e : oF (t - f).toNat (va_up (fun j => if j < i.toNat then m.getD (f.toNat + j) 0 else q j) i.toNat (m.getD (f + i).toNat 0)) = oF (t - f).toNat (fun j => if j < (i + 1).toNat then m.getD (f.toNat + j) 0 else q j) := oF_ext fun j hj => by
        unfold va_up
        by_cases h3 : j = i.toNat
        · rw [if_pos h3, if_pos (by omega)]
          congr 1
          omega
        · rw [if_neg h3]
          dsimp only
          by_cases h4 : j < i.toNat
          · rw [if_pos h4, if_pos (by omega)]
          · rw [if_neg h4, if_neg (by omega)]
      rw [e] at hW2
      refine g_iinc (L' := [aR (g r), aR (g r2), aI f, aI t, aI (i + 1)]) rfl rfl (by omega) rfl ?_
      refine g_goto rfl rfl ?_
      exact ih (i + 1) _ (by omega) (by omega) (by omega) hW2
theorem c_copySlice (hd2 : 2 ≤ d) (hW : WC K h g st cb sb) (hr : r < 125) (hr2 : r2 < 125) (hne : r2 ≠ r) (f t : Int) (h0 : 0 ≤ f) (h1 : f ≤ t) (h2 : t ≤ (st.1 r2).length) : Cal d yRw_copySlice [aR (g r), aR (g r2), aI f, aI t] h (RV none (fun h2 => WC K h2 g (uR st r (cps (st.1 r2) f t)) cb sb)) := by
  obtain ⟨d, rfl⟩ : ∃ e, d = e + 1 := ⟨d - 1, by omega⟩
  have hl2 := hW.len hr2
  show Go _ _ 0 [aR (g r), aR (g r2), aI f, aI t, none] [] _ _
  refine g_aload_n rfl rfl ?_
  refine g_iload_n rfl rfl ?_
  refine g_iload_n rfl rfl ?_
  refine g_isub rfl (by omega) ?_
  refine g_Vn (z := yRw_resize) (e := 1) (A := [aI (t - f)]) (rest := [])  rfl rfl rfl rfl rfl rfl (by omega) (hW.row hr) (hW.rowb hr) (c_resize (by omega) hW hr _) ?_
  intro hh1 hW2
  rw [rsz_oF _ (by omega) (by omega)] at hW2
  have e : oF (t - f).toNat (fun j => (st.1 r).getD j 0) = oF (t - f).toNat (fun j => if j < (0 : Int).toNat then (st.1 r2).getD (f.toNat + j) 0 else (st.1 r).getD j 0) := oF_ext fun j hj => by rw [if_neg (by simp)]
  rw [e] at hW2
  refine g_iconst (n := 0) rfl (by decide) ?_
  refine g_istore (L' := [aR (g r), aR (g r2), aI f, aI t, aI 0]) rfl rfl ?_
  exact cp_loop (d := d) hr hr2 hne f t (st.1 r2) (hW.r8 hr2) rfl h0 h1 h2 hl2 (by omega) (fun j => (st.1 r).getD j 0) (t - f).toNat 0 _ (by omega) (by omega) (by omega) hW2
theorem pa_loop (hr : r < 125) (hr2 : r2 < 125) (hne : r2 ≠ r) (p : Int) (l m : List Int) (h8 : ∀ v ∈ m, r8 v) (hm : st.1 r2 = m) (h0 : 0 ≤ p) (h1 : p + m.length ≤ l.length) (hl : l.length ≤ 10240) : ∀ (k : Nat) (i : Int) (h : AH), 0 ≤ i → i ≤ m.length → (m.length - i).toNat ≤ k → WC K h g (uR st r (oF l.length (fun j => if p.toNat ≤ j ∧ j < p.toNat + i.toNat then m.getD (j - p.toNat) 0 else l.getD j 0))) cb sb → Go (d + 1) yRw_putAll 2 [aR (g r), aI p, aR (g r2), aI i] [] h (RV none (fun h2 => WC K h2 g (uR st r (ovl l p m)) cb sb)) := by
  intro k
  induction k with
  | zero =>
    intro i h hi0 hi1 hk hW
    have e : ovl l p m = oF l.length (fun j => if p.toNat ≤ j ∧ j < p.toNat + i.toNat then m.getD (j - p.toNat) 0 else l.getD j 0) := by rw [show i.toNat = m.length by omega]; rfl
    rw [e]
    refine g_iload_n rfl rfl ?_
    refine g_aload_n rfl rfl ?_
    refine g_get (ci := 2) (kk := 1) rfl rfl (hW.row hr2) (hW.rowb hr2) rfl ?_
    rw [uR_ne _ _ hne, hm]
    refine g_icmpge rfl rfl (fun c1 => ?_) (fun c => absurd c (by omega))
    exact r_v rfl rfl hW
  | succ k ih =>
    intro i h hi0 hi1 hk hW
    by_cases hi : i = m.length
    · have e : ovl l p m = oF l.length (fun j => if p.toNat ≤ j ∧ j < p.toNat + i.toNat then m.getD (j - p.toNat) 0 else l.getD j 0) := by rw [show i.toNat = m.length by omega]; rfl
      rw [e]
      refine g_iload_n rfl rfl ?_
      refine g_aload_n rfl rfl ?_
      refine g_get (ci := 2) (kk := 1) rfl rfl (hW.row hr2) (hW.rowb hr2) rfl ?_
      rw [uR_ne _ _ hne, hm]
      refine g_icmpge rfl rfl (fun c1 => ?_) (fun c => absurd c (by omega))
      exact r_v rfl rfl hW
    · skip
      refine g_iload_n rfl rfl ?_
      refine g_aload_n rfl rfl ?_
      refine g_get (ci := 2) (kk := 1) rfl rfl (hW.row hr2) (hW.rowb hr2) rfl ?_
      rw [uR_ne _ _ hne, hm]
      refine g_icmpge rfl rfl (fun c => absurd c (by omega)) (fun c1 => ?_)
      refine g_aload_n rfl rfl ?_
      refine g_iload_n rfl rfl ?_
      refine g_iload_n rfl rfl ?_
      refine g_iadd rfl (by omega) ?_
      refine g_aload_n rfl rfl ?_
      refine g_iload_n rfl rfl ?_
      refine g_V (z := yRw_at) (e := 1) (A := [aI i]) (rest := [aI (p + i), aR (g r)]) (v := aI (rat ((uR st r (oF l.length (fun j => if p.toNat ≤ j ∧ j < p.toNat + i.toNat then m.getD (j - p.toNat) 0 else l.getD j 0))).1 r2) i)) (P := fun h2 => h2 = h) rfl rfl rfl rfl rfl rfl (by omega) (hW.row hr2) (hW.rowb hr2) (c_at hW hr2 _) ?_
      intro hh9 he9
      rw [he9]
      clear he9 hh9
      refine g_Vn (z := yRw_put) (e := 1) (A := [aI (rat ((uR st r (oF l.length (fun j => if p.toNat ≤ j ∧ j < p.toNat + i.toNat then m.getD (j - p.toNat) 0 else l.getD j 0))).1 r2) i), aI (p + i)]) (rest := [])  rfl rfl rfl rfl rfl rfl (by omega) (hW.row hr) (hW.rowb hr) (c_put hW hr _ _) ?_
      intro hh2 hW2
      rw [uR_uR, uR_get, uR_ne _ _ hne, hm, rat_in (by omega) (by omega), rput_oF (by omega) (by omega), a8_mod256 (getD_r8 h8 _)] at hW2
      have e : oF l.length (va_up (fun j => if p.toNat ≤ j ∧ j < p.toNat + i.toNat then m.getD (j - p.toNat) 0 else l.getD j 0) (p + i).toNat (m.getD i.toNat 0)) = oF l.length (fun j => if p.toNat ≤ j ∧ j < p.toNat + (i + 1).toNat then m.getD (j - p.toNat) 0 else l.getD j 0) := oF_ext fun j hj => by
        unfold va_up
        by_cases h3 : j = (p + i).toNat
        · rw [if_pos h3, if_pos (by omega)]
          congr 1
          omega
        · rw [if_neg h3]
          dsimp only
          by_cases h4 : p.toNat ≤ j ∧ j < p.toNat + i.toNat
          · rw [if_pos h4, if_pos (by omega)]
          · rw [if_neg h4, if_neg (by omega)]
      rw [e] at hW2
      refine g_iinc (L' := [aR (g r), aI p, aR (g r2), aI (i + 1)]) rfl rfl (by omega) rfl ?_
      refine g_goto rfl rfl ?_
      exact ih (i + 1) _ (by omega) (by omega) (by omega) hW2
theorem c_putAll (hd1 : 1 ≤ d) (hW : WC K h g st cb sb) (hr : r < 125) (hr2 : r2 < 125) (hne : r2 ≠ r) (p : Int) (h0 : 0 ≤ p) (h1 : p + (st.1 r2).length ≤ (st.1 r).length) : Cal d yRw_putAll [aR (g r), aI p, aR (g r2)] h (RV none (fun h2 => WC K h2 g (uR st r (ovl (st.1 r) p (st.1 r2))) cb sb)) := by
  obtain ⟨d, rfl⟩ : ∃ e, d = e + 1 := ⟨d - 1, by omega⟩
  have hl := hW.len hr
  have hW2 : WC K h g (uR st r (oF (st.1 r).length (fun j => if p.toNat ≤ j ∧ j < p.toNat + (0 : Int).toNat then (st.1 r2).getD (j - p.toNat) 0 else (st.1 r).getD j 0))) cb sb := by
    have e : oF (st.1 r).length (fun j => if p.toNat ≤ j ∧ j < p.toNat + (0 : Int).toNat then (st.1 r2).getD (j - p.toNat) 0 else (st.1 r).getD j 0) = st.1 r := by
      conv => rhs; rw [← oF_of (st.1 r)]
      exact oF_ext fun j hj => by rw [if_neg (by omega)]
    rw [e, uR_self]
    exact hW
  show Go _ _ 0 [aR (g r), aI p, aR (g r2), none] [] _ _
  refine g_iconst (n := 0) rfl (by decide) ?_
  refine g_istore_n (L' := [aR (g r), aI p, aR (g r2), aI 0]) rfl rfl ?_
  exact pa_loop (d := d) hr hr2 hne p (st.1 r) (st.1 r2) (hW.r8 hr2) rfl h0 h1 hl (st.1 r2).length 0 _ (by omega) (by omega) (by omega) hW2
theorem is_loop (hW : WC K h g st cb sb) (hr : r < 125) (hr2 : r2 < 125) (f t : Int) (h0 : 0 ≤ f) (h2 : t ≤ (st.1 r2).length) (hl : ((st.1 r).length : Int) = t - f) : ∀ (k : Nat) (i : Int), 0 ≤ i → i ≤ (st.1 r).length → ((st.1 r).length - i).toNat ≤ k → (∀ j : Nat, (j : Int) < i → (st.1 r).getD j 0 = (st.1 r2).getD (f.toNat + j) 0) → Go d yRw_isSlice 27 [aR (g r), aR (g r2), aI f, aI t, aI i] [] h (RV (some (aI (pz (sli (st.1 r) (st.1 r2) f t)))) (fun h2 => h2 = h)) := by
  have hc := hW.choose_spec.cap hr
  have hc2 := hW.choose_spec.cap hr2
  have hF := (hW.choose_spec.2.2.1 r hr).2.2.1
  have hF2 := (hW.choose_spec.2.2.1 r2 hr2).2.2.1
  intro k
  induction k with
  | zero =>
    intro i hi0 hi1 hk hp
    refine g_iload rfl rfl ?_
    refine g_aload_n rfl rfl ?_
    refine g_get (ci := 2) (kk := 1) rfl rfl (hW.row hr) (hW.rowb hr) rfl ?_
    refine g_icmpge rfl rfl (fun c1 => ?_) (fun c => absurd c (by omega))
    refine g_iconst (n := 1) rfl (by decide) ?_
    exact r_z rfl rfl (by decide) (pz_t ⟨h0, h2, hl, fun j hj => hp j (by omega)⟩).symm rfl
  | succ k ih =>
    intro i hi0 hi1 hk hp
    refine g_iload rfl rfl ?_
    refine g_aload_n rfl rfl ?_
    refine g_get (ci := 2) (kk := 1) rfl rfl (hW.row hr) (hW.rowb hr) rfl ?_
    refine g_icmpge rfl rfl (fun c1 => ?_) (fun c1 => ?_)
    · skip
      refine g_iconst (n := 1) rfl (by decide) ?_
      exact r_z rfl rfl (by decide) (pz_t ⟨h0, h2, hl, fun j hj => hp j (by omega)⟩).symm rfl
    · skip
      refine g_aload_n rfl rfl ?_
      refine g_get (ci := 2) (kk := 0) rfl rfl (hW.row hr) (hW.rowb hr) rfl ?_
      refine g_iload rfl rfl ?_
      refine g_bald rfl (hW.choose_spec.byt hr) (by omega) ?_
      rw [show (hW.choose r).2.2 (i).toNat = (st.1 r).getD i.toNat 0 from (hF _ (by omega))]
      refine g_aload_n rfl rfl ?_
      refine g_get (ci := 2) (kk := 0) rfl rfl (hW.row hr2) (hW.rowb hr2) rfl ?_
      refine g_iload_n rfl rfl ?_
      refine g_iload rfl rfl ?_
      refine g_iadd rfl (by omega) ?_
      refine g_bald rfl (hW.choose_spec.byt hr2) (by omega) ?_
      rw [show (hW.choose r2).2.2 (f + i).toNat = (st.1 r2).getD (f.toNat + i.toNat) 0 from (by rw [hF2 _ (by omega), show (f + i).toNat = f.toNat + i.toNat by omega])]
      refine g_icmpeq rfl rfl (fun c2 => ?_) (fun c2 => ?_)
      · skip
        refine g_iinc (L' := [aR (g r), aR (g r2), aI f, aI t, aI (i + 1)]) rfl rfl (by omega) rfl ?_
        refine g_goto rfl rfl ?_
        exact ih (i + 1) (by omega) (by omega) (by omega) (fun j hj => (Nat.lt_or_ge j i.toNat).elim (fun h => hp j (by omega)) (fun h => by rw [show j = i.toNat by omega]; exact c2))
      · skip
        refine g_iconst (n := 0) rfl (by decide) ?_
        exact r_z rfl rfl (by decide) (pz_f (fun q => c2 (q.2.2.2 _ (by omega)))).symm rfl
theorem c_isSlice (hW : WC K h g st cb sb) (hr : r < 125) (hr2 : r2 < 125) (f t : Int) (hf : r32 f) (ht : r32 t) (hft : 0 ≤ f → r32 (t - f)) : Cal d yRw_isSlice [aR (g r), aR (g r2), aI f, aI t] h (RV (some (aI (pz (sli (st.1 r) (st.1 r2) f t)))) (fun h2 => h2 = h)) := by
  have hc := hW.len hr
  unfold r32 at hft
  show Go _ _ 0 [aR (g r), aR (g r2), aI f, aI t, none] [] _ _
  refine g_iload_n rfl rfl ?_
  refine g_iflt rfl rfl (fun c1 => ?_) (fun c1 => ?_)
  · skip
    refine g_iconst (n := 0) rfl (by decide) ?_
    exact r_z rfl rfl (by decide) (pz_f (fun q => by have := q.1; have := q.2.1; have := q.2.2.1; omega)).symm rfl
  · skip
    refine g_iload_n rfl rfl ?_
    refine g_aload_n rfl rfl ?_
    refine g_get (ci := 2) (kk := 1) rfl rfl (hW.row hr2) (hW.rowb hr2) rfl ?_
    refine g_icmpgt rfl rfl (fun c2 => ?_) (fun c2 => ?_)
    · skip
      refine g_iconst (n := 0) rfl (by decide) ?_
      exact r_z rfl rfl (by decide) (pz_f (fun q => by have := q.1; have := q.2.1; have := q.2.2.1; omega)).symm rfl
    · skip
      refine g_aload_n rfl rfl ?_
      refine g_get (ci := 2) (kk := 1) rfl rfl (hW.row hr) (hW.rowb hr) rfl ?_
      refine g_iload_n rfl rfl ?_
      refine g_iload_n rfl rfl ?_
      refine g_isub rfl (by omega) ?_
      refine g_icmpeq rfl rfl (fun c3 => ?_) (fun c3 => ?_)
      · skip
        refine g_iconst (n := 0) rfl (by decide) ?_
        refine g_istore (L' := [aR (g r), aR (g r2), aI f, aI t, aI 0]) rfl rfl ?_
        exact is_loop hW hr hr2 f t (by omega) (by omega) (by omega) ((st.1 r).length) 0 (by omega) (by omega) (by omega) (fun j hj => by omega)
      · skip
        refine g_iconst (n := 0) rfl (by decide) ?_
        exact r_z rfl rfl (by decide) (pz_f (fun q => by have := q.1; have := q.2.1; have := q.2.2.1; omega)).symm rfl
theorem or_loop (hW : WC K h g st cb sb) (hr : r < 125) (hr2 : r2 < 125) (s : Int) (hs : s = if ((st.1 r).length : Int) ≤ (st.1 r2).length then ((st.1 r).length : Int) else (st.1 r2).length) : ∀ (k : Nat) (i : Int), 0 ≤ i → i ≤ s → (s - i).toNat ≤ k → cmpv (st.1 r) (st.1 r2) = cmpv ((st.1 r).drop i.toNat) ((st.1 r2).drop i.toNat) → Go (d + 1) yRw_order 14 [aR (g r), aR (g r2), aI s, aI i] [] h (RV (some (aI (cmpv (st.1 r) (st.1 r2)))) (fun h2 => h2 = h)) := by
  have hc := hW.len hr
  have hc2 := hW.len hr2
  have hs1 : s ≤ (st.1 r).length ∧ s ≤ (st.1 r2).length ∧ (s = (st.1 r).length ∨ s = (st.1 r2).length) := by
    rw [hs]
    split <;> omega
  intro k
  induction k with
  | zero =>
    intro i hi0 hi1 hk hp
    refine g_iload_n rfl rfl ?_
    refine g_iload_n rfl rfl ?_
    refine g_icmpge rfl rfl (fun c1 => ?_) (fun c => absurd c (by omega))
    refine g_aload_n rfl rfl ?_
    refine g_get (ci := 2) (kk := 1) rfl rfl (hW.row hr) (hW.rowb hr) rfl ?_
    refine g_aload_n rfl rfl ?_
    refine g_get (ci := 2) (kk := 1) rfl rfl (hW.row hr2) (hW.rowb hr2) rfl ?_
    refine g_isub rfl (by omega) ?_
    exact r_i rfl rfl (by rw [hp, cmpv_nil (hs1.2.2.elim (fun h => Or.inl (List.drop_eq_nil_of_le (by omega))) (fun h => Or.inr (List.drop_eq_nil_of_le (by omega)))), List.length_drop, List.length_drop]; omega) rfl
  | succ k ih =>
    intro i hi0 hi1 hk hp
    refine g_iload_n rfl rfl ?_
    refine g_iload_n rfl rfl ?_
    refine g_icmpge rfl rfl (fun c1 => ?_) (fun c1 => ?_)
    · skip
      refine g_aload_n rfl rfl ?_
      refine g_get (ci := 2) (kk := 1) rfl rfl (hW.row hr) (hW.rowb hr) rfl ?_
      refine g_aload_n rfl rfl ?_
      refine g_get (ci := 2) (kk := 1) rfl rfl (hW.row hr2) (hW.rowb hr2) rfl ?_
      refine g_isub rfl (by omega) ?_
      exact r_i rfl rfl (by rw [hp, cmpv_nil (hs1.2.2.elim (fun h => Or.inl (List.drop_eq_nil_of_le (by omega))) (fun h => Or.inr (List.drop_eq_nil_of_le (by omega)))), List.length_drop, List.length_drop]; omega) rfl
    · skip
      refine g_aload_n rfl rfl ?_
      refine g_iload_n rfl rfl ?_
      refine g_V (z := yRw_at) (e := 1) (A := [aI i]) (rest := []) (v := aI (rat (st.1 r) i)) (P := fun h2 => h2 = h) rfl rfl rfl rfl rfl rfl (by omega) (hW.row hr) (hW.rowb hr) (c_at hW hr _) ?_
      intro hh9 he9
      rw [he9]
      clear he9 hh9
      refine g_aload_n rfl rfl ?_
      refine g_iload_n rfl rfl ?_
      refine g_V (z := yRw_at) (e := 1) (A := [aI i]) (rest := [aI (rat (st.1 r) i)]) (v := aI (rat (st.1 r2) i)) (P := fun h2 => h2 = h) rfl rfl rfl rfl rfl rfl (by omega) (hW.row hr2) (hW.rowb hr2) (c_at hW hr2 _) ?_
      intro hh9 he9
      rw [he9]
      clear he9 hh9
      have hcv : cmpv ((st.1 r).drop i.toNat) ((st.1 r2).drop i.toNat) = if (st.1 r).getD i.toNat 0 % 256 = (st.1 r2).getD i.toNat 0 % 256 then cmpv ((st.1 r).drop (i.toNat + 1)) ((st.1 r2).drop (i.toNat + 1)) else (st.1 r).getD i.toNat 0 % 256 - (st.1 r2).getD i.toNat 0 % 256 := by rw [drop_cons (l := st.1 r) (i := i.toNat) (by omega), drop_cons (l := st.1 r2) (i := i.toNat) (by omega)]; rfl
      rw [rat_in (by omega) (by omega), rat_in (by omega) (by omega)]
      refine g_icmpeq rfl rfl (fun c2 => ?_) (fun c2 => ?_)
      · skip
        refine g_iinc (L' := [aR (g r), aR (g r2), aI s, aI (i + 1)]) rfl rfl (by omega) rfl ?_
        refine g_goto rfl rfl ?_
        exact ih (i + 1) (by omega) (by omega) (by omega) (by rw [hp, hcv, if_pos c2, show (i + 1).toNat = i.toNat + 1 by omega])
      · skip
        refine g_aload_n rfl rfl ?_
        refine g_iload_n rfl rfl ?_
        refine g_V (z := yRw_at) (e := 1) (A := [aI i]) (rest := []) (v := aI (rat (st.1 r) i)) (P := fun h2 => h2 = h) rfl rfl rfl rfl rfl rfl (by omega) (hW.row hr) (hW.rowb hr) (c_at hW hr _) ?_
        intro hh9 he9
        rw [he9]
        clear he9 hh9
        refine g_aload_n rfl rfl ?_
        refine g_iload_n rfl rfl ?_
        refine g_V (z := yRw_at) (e := 1) (A := [aI i]) (rest := [aI (rat (st.1 r) i)]) (v := aI (rat (st.1 r2) i)) (P := fun h2 => h2 = h) rfl rfl rfl rfl rfl rfl (by omega) (hW.row hr2) (hW.rowb hr2) (c_at hW hr2 _) ?_
        intro hh9 he9
        rw [he9]
        clear he9 hh9
        rw [rat_in (by omega) (by omega), rat_in (by omega) (by omega)]
        refine g_isub rfl (by omega) ?_
        exact r_i rfl rfl (by rw [hp, hcv, if_neg c2]) rfl
theorem c_order (hd1 : 1 ≤ d) (hW : WC K h g st cb sb) (hr : r < 125) (hr2 : r2 < 125) : Cal d yRw_order [aR (g r), aR (g r2)] h (RV (some (aI (cmpv (st.1 r) (st.1 r2)))) (fun h2 => h2 = h)) := by
  obtain ⟨d, rfl⟩ : ∃ e, d = e + 1 := ⟨d - 1, by omega⟩
  have hc := hW.len hr
  have hc2 := hW.len hr2
  show Go _ _ 0 [aR (g r), aR (g r2), none, none] [] _ _
  refine g_aload_n rfl rfl ?_
  refine g_get (ci := 2) (kk := 1) rfl rfl (hW.row hr) (hW.rowb hr) rfl ?_
  refine g_aload_n rfl rfl ?_
  refine g_get (ci := 2) (kk := 1) rfl rfl (hW.row hr2) (hW.rowb hr2) rfl ?_
  refine g_min rfl rfl rfl (Nat.le_of_ble_eq_true rfl) ?_
  refine g_istore_n (L' := [aR (g r), aR (g r2), aI (if (((st.1 r).length : Nat) : Int) ≤ (((st.1 r2).length : Nat) : Int) then (((st.1 r).length : Nat) : Int) else (((st.1 r2).length : Nat) : Int)), none]) rfl rfl ?_
  refine g_iconst (n := 0) rfl (by decide) ?_
  refine g_istore_n (L' := [aR (g r), aR (g r2), aI (if (((st.1 r).length : Nat) : Int) ≤ (((st.1 r2).length : Nat) : Int) then (((st.1 r).length : Nat) : Int) else (((st.1 r2).length : Nat) : Int)), aI 0]) rfl rfl ?_
  exact or_loop (d := d) hW hr hr2 _ rfl 10240 0 (by omega) (by split <;> omega) (by split <;> omega) rfl
theorem it_loop (hW : WC K h g st cb sb) (hr : r < 125) : ∀ (k : Nat) (i : Int), 0 ≤ i → i ≤ (st.1 r).length → ((st.1 r).length - i).toNat ≤ k → (∀ j : Nat, (j : Int) < i → 33 ≤ (st.1 r).getD j 0 % 256 ∧ (st.1 r).getD j 0 % 256 ≤ 126) → Go (d + 1) yRw_isTarget 2 [aR (g r), aI i] [] h (RV (some (aI (pz (tgt (st.1 r))))) (fun h2 => h2 = h)) := by
  have hc := hW.len hr
  intro k
  induction k with
  | zero =>
    intro i hi0 hi1 hk hp
    refine g_iload_n rfl rfl ?_
    refine g_aload_n rfl rfl ?_
    refine g_get (ci := 2) (kk := 1) rfl rfl (hW.row hr) (hW.rowb hr) rfl ?_
    refine g_icmpge rfl rfl (fun c1 => ?_) (fun c => absurd c (by omega))
    refine g_iconst (n := 1) rfl (by decide) ?_
    exact r_z rfl rfl (by decide) (pz_t (fun j hj => hp j (by omega))).symm rfl
  | succ k ih =>
    intro i hi0 hi1 hk hp
    refine g_iload_n rfl rfl ?_
    refine g_aload_n rfl rfl ?_
    refine g_get (ci := 2) (kk := 1) rfl rfl (hW.row hr) (hW.rowb hr) rfl ?_
    refine g_icmpge rfl rfl (fun c1 => ?_) (fun c1 => ?_)
    · skip
      refine g_iconst (n := 1) rfl (by decide) ?_
      exact r_z rfl rfl (by decide) (pz_t (fun j hj => hp j (by omega))).symm rfl
    · skip
      refine g_aload_n rfl rfl ?_
      refine g_iload_n rfl rfl ?_
      refine g_V (z := yRw_at) (e := 1) (A := [aI i]) (rest := []) (v := aI (rat (st.1 r) i)) (P := fun h2 => h2 = h) rfl rfl rfl rfl rfl rfl (by omega) (hW.row hr) (hW.rowb hr) (c_at hW hr _) ?_
      intro hh9 he9
      rw [he9]
      clear he9 hh9
      refine g_bipush (n := 33) rfl (by decide) ?_
      rw [rat_in (by omega) (by omega)]
      refine g_icmplt rfl rfl (fun c2 => ?_) (fun c2 => ?_)
      · skip
        refine g_iconst (n := 0) rfl (by decide) ?_
        exact r_z rfl rfl (by decide) (pz_f (fun q => by have := q i.toNat (by omega); omega)).symm rfl
      · skip
        refine g_aload_n rfl rfl ?_
        refine g_iload_n rfl rfl ?_
        refine g_V (z := yRw_at) (e := 1) (A := [aI i]) (rest := []) (v := aI (rat (st.1 r) i)) (P := fun h2 => h2 = h) rfl rfl rfl rfl rfl rfl (by omega) (hW.row hr) (hW.rowb hr) (c_at hW hr _) ?_
        intro hh9 he9
        rw [he9]
        clear he9 hh9
        refine g_bipush (n := 126) rfl (by decide) ?_
        rw [rat_in (by omega) (by omega)]
        refine g_icmple rfl rfl (fun c3 => ?_) (fun c3 => ?_)
        · skip
          refine g_iinc (L' := [aR (g r), aI (i + 1)]) rfl rfl (by omega) rfl ?_
          refine g_goto rfl rfl ?_
          exact ih (i + 1) (by omega) (by omega) (by omega) (fun j hj => (Nat.lt_or_ge j i.toNat).elim (fun h => hp j (by omega)) (fun h => by rw [show j = i.toNat by omega]; omega))
        · skip
          refine g_iconst (n := 0) rfl (by decide) ?_
          exact r_z rfl rfl (by decide) (pz_f (fun q => by have := q i.toNat (by omega); omega)).symm rfl
theorem c_isTarget (hd1 : 1 ≤ d) (hW : WC K h g st cb sb) (hr : r < 125) : Cal d yRw_isTarget [aR (g r)] h (RV (some (aI (pz (tgt (st.1 r))))) (fun h2 => h2 = h)) := by
  obtain ⟨d, rfl⟩ : ∃ e, d = e + 1 := ⟨d - 1, by omega⟩
  show Go _ _ 0 [aR (g r), none] [] _ _
  refine g_iconst (n := 0) rfl (by decide) ?_
  refine g_istore_n (L' := [aR (g r), aI 0]) rfl rfl ?_
  exact it_loop (d := d) hW hr _ 0 (by omega) (by omega) (Nat.le_refl _) (fun j hj => by omega)
theorem ls_loop (hW : WC K h g st cb sb) (hr : r < 125) (b : Int) : ∀ (k : Nat), (k : Int) ≤ (st.1 r).length → Go (d + 1) yRw_lastSlash 4 [aR (g r), aI b, aI ((k : Int) - 1)] [] h (RV (some (aI (lsl (st.1 r) k))) (fun h2 => h2 = h)) := by
  have hc := hW.len hr
  intro k
  induction k with
  | zero =>
    intro hk
    refine g_iload_n rfl rfl ?_
    refine g_iflt rfl rfl (fun c1 => ?_) (fun c => absurd c (by omega))
    refine g_iconst (n := -1) rfl (by decide) ?_
    exact r_i rfl rfl rfl rfl
  | succ k ih =>
    intro hk
    have e : (((k + 1 : Nat) : Int) - 1) = k := by omega
    rw [e]
    refine g_iload_n rfl rfl ?_
    refine g_iflt rfl rfl (fun c => absurd c (by omega)) (fun c1 => ?_)
    refine g_aload_n rfl rfl ?_
    refine g_iload_n rfl rfl ?_
    refine g_V (z := yRw_at) (e := 1) (A := [aI ((k : Int))]) (rest := []) (v := aI (rat (st.1 r) (k : Int))) (P := fun h2 => h2 = h) rfl rfl rfl rfl rfl rfl (by omega) (hW.row hr) (hW.rowb hr) (c_at hW hr _) ?_
    intro hh9 he9
    rw [he9]
    clear he9 hh9
    refine g_bipush (n := 47) rfl (by decide) ?_
    rw [rat_in (by omega) (by omega), Int.toNat_natCast]
    refine g_icmpne rfl rfl (fun c2 => ?_) (fun c2 => ?_)
    · skip
      refine g_iinc (L' := [aR (g r), aI b, aI ((k : Int) + (-1))]) rfl rfl (by omega) rfl ?_
      refine g_goto rfl rfl ?_
      have h9 := ih (by omega)
      rw [show lsl (st.1 r) (k + 1) = lsl (st.1 r) k from if_neg c2]
      exact h9
    · skip
      refine g_iload_n rfl rfl ?_
      exact r_i rfl rfl (by show (k : Int) = lsl (st.1 r) (k + 1); exact (if_pos c2).symm) rfl
theorem c_lastSlash (hd1 : 1 ≤ d) (hW : WC K h g st cb sb) (hr : r < 125) (b : Int) (h0 : 0 ≤ b) (h1 : b ≤ (st.1 r).length) : Cal d yRw_lastSlash [aR (g r), aI b] h (RV (some (aI (lsl (st.1 r) b.toNat))) (fun h2 => h2 = h)) := by
  obtain ⟨d, rfl⟩ : ∃ e, d = e + 1 := ⟨d - 1, by omega⟩
  have hc := hW.len hr
  show Go _ _ 0 [aR (g r), aI b, none] [] _ _
  refine g_iload_n rfl rfl ?_
  refine g_iconst (n := 1) rfl (by decide) ?_
  refine g_isub rfl (by omega) ?_
  refine g_istore_n (L' := [aR (g r), aI b, aI (b - 1)]) rfl rfl ?_
  have h9 := ls_loop (d := d) hW hr b b.toNat (by omega)
  rw [show ((b.toNat : Nat) : Int) = b by omega] at h9
  exact h9
theorem nm_loop (hW : WC K h g st cb sb) (hr : r < 125) (f t : Int) (h0 : 0 ≤ f) (h1 : t ≤ (st.1 r).length) (hft : f ≤ t) : ∀ (k : Nat) (i : Int) (v5 : AV), f ≤ i → i ≤ t → (t - i).toNat ≤ k → (∀ j : Nat, f ≤ j → (j : Int) < i → ltr ((st.1 r).getD j 0)) → Go (d + 1) yRw_isNameOfAnyLength 5 [aR (g r), aI f, aI t, aI (pz (∀ j : Nat, f ≤ j → (j : Int) < i → (st.1 r).getD j 0 % 256 = 46)), aI i, v5] [] h (RV (some (aI (pz (nmix (st.1 r) f t)))) (fun h2 => h2 = h)) := by
  have hc := hW.len hr
  intro k
  induction k with
  | zero =>
    intro i v5 hi0 hi1 hk hp
    obtain rfl : i = t := by omega
    refine g_iload rfl rfl ?_
    refine g_iload_n rfl rfl ?_
    refine g_icmpge rfl rfl (fun c1 => ?_) (fun c => absurd c (by omega))
    refine g_iload_n rfl rfl ?_
    refine g_iload_n rfl rfl ?_
    refine g_icmple rfl rfl (fun c2 => ?_) (fun c2 => ?_)
    · skip
      refine g_iconst (n := 0) rfl (by decide) ?_
      exact r_z rfl rfl (by decide) (pz_f (fun q => by first | (have := q.2.1; omega) | exact q.2.2 ⟨pz_ne (by assumption), by omega⟩)).symm rfl
    · skip
      refine g_iload_n rfl rfl ?_
      refine g_ifeq rfl rfl (fun c3 => ?_) (fun c3 => ?_)
      · skip
        have cE := c3
        refine g_iconst (n := 1) rfl (by decide) ?_
        refine g_goto rfl rfl ?_
        exact r_z rfl rfl (by decide) (pz_t ⟨hp, by omega, fun q => by first | exact absurd q.1 (pz_eq (by assumption)) | (have := q.2; omega)⟩).symm rfl
      · skip
        have cE := c3
        refine g_iload_n rfl rfl ?_
        refine g_iload_n rfl rfl ?_
        refine g_isub rfl (by omega) ?_
        refine g_iconst (n := 2) rfl (by decide) ?_
        refine g_icmple rfl rfl (fun c4 => ?_) (fun c4 => ?_)
        · skip
          refine g_iconst (n := 0) rfl (by decide) ?_
          exact r_z rfl rfl (by decide) (pz_f (fun q => by first | (have := q.2.1; omega) | exact q.2.2 ⟨pz_ne (by assumption), by omega⟩)).symm rfl
        · skip
          refine g_iconst (n := 1) rfl (by decide) ?_
          refine g_goto rfl rfl ?_
          exact r_z rfl rfl (by decide) (pz_t ⟨hp, by omega, fun q => by first | exact absurd q.1 (pz_eq (by assumption)) | (have := q.2; omega)⟩).symm rfl
  | succ k ih =>
    intro i v5 hi0 hi1 hk hp
    by_cases hit : i = t
    · subst hit
      refine g_iload rfl rfl ?_
      refine g_iload_n rfl rfl ?_
      refine g_icmpge rfl rfl (fun c1 => ?_) (fun c => absurd c (by omega))
      refine g_iload_n rfl rfl ?_
      refine g_iload_n rfl rfl ?_
      refine g_icmple rfl rfl (fun c2 => ?_) (fun c2 => ?_)
      · skip
        refine g_iconst (n := 0) rfl (by decide) ?_
        exact r_z rfl rfl (by decide) (pz_f (fun q => by first | (have := q.2.1; omega) | exact q.2.2 ⟨pz_ne (by assumption), by omega⟩)).symm rfl
      · skip
        refine g_iload_n rfl rfl ?_
        refine g_ifeq rfl rfl (fun c3 => ?_) (fun c3 => ?_)
        · skip
          have cE := c3
          refine g_iconst (n := 1) rfl (by decide) ?_
          refine g_goto rfl rfl ?_
          exact r_z rfl rfl (by decide) (pz_t ⟨hp, by omega, fun q => by first | exact absurd q.1 (pz_eq (by assumption)) | (have := q.2; omega)⟩).symm rfl
        · skip
          have cE := c3
          refine g_iload_n rfl rfl ?_
          refine g_iload_n rfl rfl ?_
          refine g_isub rfl (by omega) ?_
          refine g_iconst (n := 2) rfl (by decide) ?_
          refine g_icmple rfl rfl (fun c4 => ?_) (fun c4 => ?_)
          · skip
            refine g_iconst (n := 0) rfl (by decide) ?_
            exact r_z rfl rfl (by decide) (pz_f (fun q => by first | (have := q.2.1; omega) | exact q.2.2 ⟨pz_ne (by assumption), by omega⟩)).symm rfl
          · skip
            refine g_iconst (n := 1) rfl (by decide) ?_
            refine g_goto rfl rfl ?_
            exact r_z rfl rfl (by decide) (pz_t ⟨hp, by omega, fun q => by first | exact absurd q.1 (pz_eq (by assumption)) | (have := q.2; omega)⟩).symm rfl
    · skip
      refine g_iload rfl rfl ?_
      refine g_iload_n rfl rfl ?_
      refine g_icmpge rfl rfl (fun c => absurd c (by omega)) (fun c1 => ?_)
      refine g_aload_n rfl rfl ?_
      refine g_iload rfl rfl ?_
      refine g_V (z := yRw_at) (e := 1) (A := [aI i]) (rest := []) (v := aI (rat (st.1 r) i)) (P := fun h2 => h2 = h) rfl rfl rfl rfl rfl rfl (by omega) (hW.row hr) (hW.rowb hr) (c_at hW hr _) ?_
      intro hh9 he9
      rw [he9]
      clear he9 hh9
      have hrt : rat (st.1 r) i = (st.1 r).getD i.toNat 0 % 256 := rat_in (by omega) (by omega)
      refine g_istore (L' := [aR (g r), aI f, aI t, aI (pz (∀ j : Nat, f ≤ j → (j : Int) < i → (st.1 r).getD j 0 % 256 = 46)), aI i, aI (rat (st.1 r) i)]) rfl rfl ?_
      refine g_iload rfl rfl ?_
      refine g_bipush (n := 33) rfl (by decide) ?_
      refine g_icmplt rfl rfl (fun c2 => ?_) (fun c2 => ?_)
      · skip
        refine g_iconst (n := 0) rfl (by decide) ?_
        exact r_z rfl rfl (by decide) (pz_f (fun q => by have := q.1 i.toNat (by omega) (by omega); unfold ltr at this; omega)).symm rfl
      · skip
        refine g_iload rfl rfl ?_
        refine g_bipush (n := 126) rfl (by decide) ?_
        refine g_icmpgt rfl rfl (fun c3 => ?_) (fun c3 => ?_)
        · skip
          refine g_iconst (n := 0) rfl (by decide) ?_
          exact r_z rfl rfl (by decide) (pz_f (fun q => by have := q.1 i.toNat (by omega) (by omega); unfold ltr at this; omega)).symm rfl
        · skip
          refine g_iload rfl rfl ?_
          refine g_bipush (n := 47) rfl (by decide) ?_
          refine g_icmpne rfl rfl (fun c4 => ?_) (fun c4 => ?_)
          · skip
            refine g_iload_n rfl rfl ?_
            refine g_ifeq rfl rfl (fun c5 => ?_) (fun c5 => ?_)
            · skip
              have cD := c5
              refine g_iconst (n := 0) rfl (by decide) ?_
              refine g_istore_n (L' := [aR (g r), aI f, aI t, aI 0, aI i, aI (rat (st.1 r) i)]) rfl rfl ?_
              refine g_iinc (L' := [aR (g r), aI f, aI t, aI 0, aI (i + 1), aI (rat (st.1 r) i)]) rfl rfl (by omega) rfl ?_
              refine g_goto rfl rfl ?_
              have h9 := ih (i + 1) (aI (rat (st.1 r) i)) (by omega) (by omega) (by omega) (fun j h3 h4 => (Nat.lt_or_ge j i.toNat).elim (fun h => hp j h3 (by omega)) (fun h => by rw [show j = i.toNat by omega]; exact ⟨by omega, by omega, by omega⟩))
              rw [pz_f (fun q => by first | exact pz_eq cD (fun j h3 h4 => q j h3 (by omega)) | (have := q i.toNat (by omega) (by omega); omega))] at h9
              exact h9
            · skip
              have cD := c5
              refine g_iload rfl rfl ?_
              refine g_bipush (n := 46) rfl (by decide) ?_
              refine g_icmpne rfl rfl (fun c6 => ?_) (fun c6 => ?_)
              · skip
                refine g_iconst (n := 0) rfl (by decide) ?_
                refine g_istore_n (L' := [aR (g r), aI f, aI t, aI 0, aI i, aI (rat (st.1 r) i)]) rfl rfl ?_
                refine g_iinc (L' := [aR (g r), aI f, aI t, aI 0, aI (i + 1), aI (rat (st.1 r) i)]) rfl rfl (by omega) rfl ?_
                refine g_goto rfl rfl ?_
                have h9 := ih (i + 1) (aI (rat (st.1 r) i)) (by omega) (by omega) (by omega) (fun j h3 h4 => (Nat.lt_or_ge j i.toNat).elim (fun h => hp j h3 (by omega)) (fun h => by rw [show j = i.toNat by omega]; exact ⟨by omega, by omega, by omega⟩))
                rw [pz_f (fun q => by first | exact pz_eq cD (fun j h3 h4 => q j h3 (by omega)) | (have := q i.toNat (by omega) (by omega); omega))] at h9
                exact h9
              · skip
                refine g_iconst (n := 1) rfl (by decide) ?_
                refine g_goto rfl rfl ?_
                refine g_istore_n (L' := [aR (g r), aI f, aI t, aI 1, aI i, aI (rat (st.1 r) i)]) rfl rfl ?_
                refine g_iinc (L' := [aR (g r), aI f, aI t, aI 1, aI (i + 1), aI (rat (st.1 r) i)]) rfl rfl (by omega) rfl ?_
                refine g_goto rfl rfl ?_
                have h9 := ih (i + 1) (aI (rat (st.1 r) i)) (by omega) (by omega) (by omega) (fun j h3 h4 => (Nat.lt_or_ge j i.toNat).elim (fun h => hp j h3 (by omega)) (fun h => by rw [show j = i.toNat by omega]; exact ⟨by omega, by omega, by omega⟩))
                rw [pz_t (fun j h3 h4 => (Nat.lt_or_ge j i.toNat).elim (fun h => pz_ne cD j h3 (by omega)) (fun h => by rw [show j = i.toNat by omega]; omega))] at h9
                exact h9
          · skip
            refine g_iconst (n := 0) rfl (by decide) ?_
            exact r_z rfl rfl (by decide) (pz_f (fun q => by have := q.1 i.toNat (by omega) (by omega); unfold ltr at this; omega)).symm rfl
theorem c_isName (hd1 : 1 ≤ d) (hW : WC K h g st cb sb) (hr : r < 125) (f t : Int) (h0 : 0 ≤ f) (h1 : t ≤ (st.1 r).length) (hft : f ≤ t) : Cal d yRw_isNameOfAnyLength [aR (g r), aI f, aI t] h (RV (some (aI (pz (nmix (st.1 r) f t)))) (fun h2 => h2 = h)) := by
  obtain ⟨d, rfl⟩ : ∃ e, d = e + 1 := ⟨d - 1, by omega⟩
  show Go _ _ 0 [aR (g r), aI f, aI t, none, none, none] [] _ _
  refine g_iconst (n := 1) rfl (by decide) ?_
  refine g_istore_n (L' := [aR (g r), aI f, aI t, aI 1, none, none]) rfl rfl ?_
  refine g_iload_n rfl rfl ?_
  refine g_istore (L' := [aR (g r), aI f, aI t, aI 1, aI f, none]) rfl rfl ?_
  have h9 := nm_loop (d := d) hW hr f t h0 h1 hft (t - f).toNat f none (by omega) hft (Nat.le_refl _) (fun j h3 h4 => by omega)
  rw [pz_t (fun j h3 h4 => by omega)] at h9
  exact h9
end RowC2
