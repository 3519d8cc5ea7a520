/-! Contracts of the rows' methods. -/
section RowW
variable {K : KE} {h : AH} {g : Nat → Nat} {hd : HD} {st : CS} {cb sb : Nat} {r : Nat}
theorem WC0.row (hW : WC0 K h g hd st cb sb) (hr : r < 125) : h.1 (g r) = some (eO 2 [aR (hd r).1, aI (st.1 r).length]) := by
  have := (hW.1 r (Or.inl hr)).1
  rw [ad_g (by omega)] at this
  rw [this]
  unfold cel
  rw [if_pos hr]
theorem WC0.rowb (hW : WC0 K h g hd st cb sb) (hr : r < 125) : h.2.2.2.1 ≤ g r := by
  have := (hW.1 r (Or.inl hr)).2.1
  rw [ad_g (by omega)] at this
  rw [hW.2.2.2.2.1]
  exact this
theorem WC0.byt (hW : WC0 K h g hd st cb sb) (hr : r < 125) : h.1 (hd r).1 = some (eA 1 (hd r).2.1 (hd r).2.2) := by
  have := (hW.1 (200 + r) (Or.inr (Or.inl (by omega)))).1
  rw [ad_b hr] at this
  rw [this]
  unfold cel
  rw [if_neg (by omega), if_pos (by omega), Nat.add_sub_cancel_left]
theorem WC0.bytb (hW : WC0 K h g hd st cb sb) (hr : r < 125) : h.2.2.2.1 ≤ (hd r).1 := by
  have := (hW.1 (200 + r) (Or.inr (Or.inl (by omega)))).2.1
  rw [ad_b hr] at this
  rw [hW.2.2.2.2.1]
  exact this
theorem WC0.cap (hW : WC0 K h g hd st cb sb) (hr : r < 125) : (st.1 r).length ≤ (hd r).2.1 ∧ (hd r).2.1 ≤ 10240 := by
  have := hW.2.2.1 r hr
  refine ⟨this.1, ?_⟩
  rcases this.2.1 with h | h | h | h <;> omega
theorem WC.row (hW : WC K h g st cb sb) (hr : r < 125) : h.1 (g r) = some (eO 2 [aR (hW.choose r).1, aI (st.1 r).length]) := hW.choose_spec.row hr
theorem WC.rowb (hW : WC K h g st cb sb) (hr : r < 125) : h.2.2.2.1 ≤ g r := hW.choose_spec.rowb hr
theorem WC.len (hW : WC K h g st cb sb) (hr : r < 125) : (st.1 r).length ≤ 10240 := by
  obtain ⟨hd, hW⟩ := hW
  have := hW.cap hr
  omega
theorem WC.r8 (hW : WC K h g st cb sb) (hr : r < 125) : ∀ v ∈ st.1 r, r8 v := by
  obtain ⟨hd, hW⟩ := hW
  exact (hW.2.2.1 r hr).2.2.2
theorem uR_self (st : CS) (r : Nat) : uR st r (st.1 r) = st := by
  have : va_up st.1 r (st.1 r) = st.1 := funext fun j => by
    unfold va_up
    split
    · rename_i h; rw [h]
    · rfl
  unfold uR
  rw [this]
theorem uR_get (st : CS) (r : Nat) (l : List Int) : (uR st r l).1 r = l := by simp [uR, va_up]
theorem uR_ne (st : CS) {r j : Nat} (l : List Int) (hj : j ≠ r) : (uR st r l).1 j = st.1 j := by simp [uR, va_up, hj]
theorem uR_uR (st : CS) (r : Nat) (l m : List Int) : uR (uR st r l) r m = uR st r m := by
  unfold uR
  have : va_up (va_up st.1 r l) r m = va_up st.1 r m := funext fun j => by
    unfold va_up
    split <;> rfl
  simp only [this]
/-- bytes of a row are written, its length may change -/
theorem WC0.bytes (hW : WC0 K h g hd st cb sb) (hr : r < 125) {F : Nat → Int} (hF : ∀ i, i < (st.1 r).length → F i = (st.1 r).getD i 0) : WC0 K (hput h (hd r).1 (eA 1 (hd r).2.1 F)) g (va_up hd r ((hd r).1, (hd r).2.1, F)) st cb sb := by
  have hdm : dm (200 + r) := Or.inr (Or.inl (by omega))
  have hu : ∀ j, j ≠ r → va_up hd r ((hd r).1, (hd r).2.1, F) j = hd j := fun j hj => by simp [va_up, hj]
  have hur : va_up hd r ((hd r).1, (hd r).2.1, F) r = ((hd r).1, (hd r).2.1, F) := by simp [va_up]
  have k := hW.put (c0 := 200 + r) (hd' := va_up hd r ((hd r).1, (hd r).2.1, F)) (st' := st) (e := eA 1 (hd r).2.1 F) hdm (fun j => by
    by_cases hj : j = r
    · subst hj; rw [hur]; exact ⟨rfl, rfl⟩
    · rw [hu j hj]; exact ⟨rfl, rfl⟩) (by
    unfold cel
    rw [if_neg (by omega), if_pos (by omega), Nat.add_sub_cancel_left, hur]) (fun c hc hne => by
    unfold cel
    by_cases h3 : c < 125
    · rw [if_pos h3, if_pos h3]
      by_cases hj : c = r
      · subst hj; rw [hur]
      · rw [hu c hj]
    · rw [if_neg h3, if_neg h3]
      by_cases h4 : c < 325
      · rw [if_pos h4, if_pos h4, hu _ (by rcases hc with h | h | h | h <;> omega)]
      · rw [if_neg h4, if_neg h4]) (fun j hj => by
    obtain ⟨q1, q2, q3, q4⟩ := hW.2.2.1 j hj
    by_cases e : j = r
    · subst e
      unfold rowok
      rw [hur]
      exact ⟨q1, q2, hF, q4⟩
    · unfold rowok
      rw [hu j e]
      exact ⟨q1, q2, q3, q4⟩) hW.2.2.2.1
  rw [ad_b hr] at k
  exact k
theorem shp_uR {st : CS} {r : Nat} {l : List Int} (h : shp st) : shp (uR st r l) := h
theorem cel_uR {g : Nat → Nat} {hd : HD} {st : CS} {r c : Nat} {l : List Int} (hc : c ≠ r) : cel g hd (uR st r l) c = cel g hd st c := by
  unfold cel uR
  have h1 : va_up st.1 r l c = st.1 c := by simp [va_up, hc]
  simp only [h1]
/-- the row's own cell: its length, what the bytes are then -/
theorem WC0.setlen (hW : WC0 K h g hd st cb sb) (hr : r < 125) {l : List Int} (h1 : l.length ≤ (hd r).2.1) (h2 : ∀ i, i < l.length → (hd r).2.2 i = l.getD i 0) (h3 : ∀ v ∈ l, r8 v) : WC0 K (hput h (g r) (eO 2 [aR (hd r).1, aI l.length])) g hd (uR st r l) cb sb := by
  have k := hW.put (c0 := r) (hd' := hd) (st' := uR st r l) (e := eO 2 [aR (hd r).1, aI l.length]) (Or.inl hr) (fun j => ⟨rfl, rfl⟩) (by
    unfold cel
    rw [if_pos hr, uR_get]) (fun c hc hne => cel_uR hne) (fun j hj => by
    by_cases e : j = r
    · subst e
      unfold rowok
      rw [uR_get]
      exact ⟨h1, (hW.2.2.1 j hj).2.1, h2, h3⟩
    · unfold rowok
      rw [uR_ne _ _ e]
      exact hW.2.2.1 j hj) (shp_uR hW.2.2.2.1)
  rw [ad_g (by omega)] at k
  exact k
/-- bytes in the row's length: the row is another one -/
theorem WC0.setb (hW : WC0 K h g hd st cb sb) (hr : r < 125) {F : Nat → Int} {l : List Int} (hl : l.length = (st.1 r).length) (hF : ∀ i, i < l.length → F i = l.getD i 0) (h8 : ∀ v ∈ l, r8 v) : WC0 K (hput h (hd r).1 (eA 1 (hd r).2.1 F)) g (va_up hd r ((hd r).1, (hd r).2.1, F)) (uR st r l) cb sb := by
  have hdm : dm (200 + r) := Or.inr (Or.inl (by omega))
  have hu : ∀ j, j ≠ r → va_up hd r ((hd r).1, (hd r).2.1, F) j = hd j := fun j hj => by simp [va_up, hj]
  have hur : va_up hd r ((hd r).1, (hd r).2.1, F) r = ((hd r).1, (hd r).2.1, F) := by simp [va_up]
  have k := hW.put (c0 := 200 + r) (hd' := va_up hd r ((hd r).1, (hd r).2.1, F)) (st' := uR st r l) (e := eA 1 (hd r).2.1 F) hdm (fun j => by
    by_cases hj : j = r
    · subst hj; rw [hur]; exact ⟨rfl, rfl⟩
    · rw [hu j hj]; exact ⟨rfl, rfl⟩) (by
    unfold cel
    rw [if_neg (by omega), if_pos (by omega), Nat.add_sub_cancel_left, hur]) (fun c hc hne => by
    by_cases hj : c = r
    · subst hj
      unfold cel
      rw [if_pos hr, if_pos hr, hur, uR_get, hl]
    · rw [cel_uR hj]
      unfold cel
      by_cases h3 : c < 125
      · rw [if_pos h3, if_pos h3, hu c hj]
      · rw [if_neg h3, if_neg h3]
        by_cases h4 : c < 325
        · rw [if_pos h4, if_pos h4, hu _ (by rcases hc with h | h | h | h <;> omega)]
        · rw [if_neg h4, if_neg h4]) (fun j hj => by
    obtain ⟨q1, q2, q3, q4⟩ := hW.2.2.1 j hj
    by_cases e : j = r
    · subst e
      unfold rowok
      rw [hur, uR_get]
      exact ⟨by rw [hl]; exact q1, q2, hF, h8⟩
    · unfold rowok
      rw [hu j e, uR_ne _ _ e]
      exact ⟨q1, q2, q3, q4⟩) (shp_uR hW.2.2.2.1)
  rw [ad_b hr] at k
  exact k
end RowW
/-- what a row has at an index; what it is with a byte put -/
def rat (l : List Int) (i : Int) : Int := if 0 ≤ i ∧ i < l.length then l.getD i.toNat 0 % 256 else -1
def rput (l : List Int) (i b : Int) : List Int := if 0 ≤ i ∧ i < l.length then l.set i.toNat (a8 b) else l
theorem rput_len (l : List Int) (i b : Int) : (rput l i b).length = l.length := by
  unfold rput
  split
  · simp
  · rfl
theorem rput_r8 {l : List Int} {i b : Int} (h : ∀ v ∈ l, r8 v) : ∀ v ∈ rput l i b, r8 v := by
  unfold rput
  split
  · intro v hv
    rcases List.mem_or_eq_of_mem_set hv with h1 | h1
    · exact h v h1
    · rw [h1]; exact a8_r b
  · exact h
theorem getD_set {l : List Int} {i j : Nat} {v : Int} (hi : i < l.length) : (l.set i v).getD j 0 = if j = i then v else l.getD j 0 := by
  simp only [List.getD_eq_getElem?_getD, List.getElem?_set]
  by_cases h : j = i
  · subst h
    simp [hi]
  · simp [h, Ne.symm h]
section RowC
variable {K : KE} {h : AH} {g : Nat → Nat} {hd : HD} {st : CS} {cb sb : Nat} {r d : Nat}
theorem c_at (hW : WC K h g st cb sb) (hr : r < 125) (i : Int) : Cal d yRw_at [aR (g r), aI i] h (RV (some (aI (rat (st.1 r) i))) (fun h2 => h2 = h)) := by
  obtain ⟨hd, hW⟩ := hW
  have hcap := hW.cap hr
  have hF := (hW.2.2.1 r hr).2.2.1
  show Go _ _ 0 [aR (g r), aI i] [] _ _
  refine g_iload_n rfl rfl ?_
  refine g_iflt rfl rfl (fun c1 => ?_) (fun c1 => ?_)
  · skip
    refine g_iconst (n := -1) rfl (by decide) ?_
    exact r_i rfl rfl (by unfold rat; rw [if_neg (by omega)]) rfl
  · skip
    refine g_iload_n rfl rfl ?_
    refine g_aload_n rfl rfl ?_
    refine g_get (ci := 2) (kk := 1) rfl rfl (hW.row hr) (hW.rowb hr) rfl ?_
    refine g_icmpge rfl rfl (fun c2 => ?_) (fun c2 => ?_)
    · skip
      refine g_iconst (n := -1) rfl (by decide) ?_
      exact r_i rfl rfl (by unfold rat; rw [if_neg (by omega)]) rfl
    · skip
      refine g_aload_n rfl rfl ?_
      refine g_get (ci := 2) (kk := 0) rfl rfl (hW.row hr) (hW.rowb hr) rfl ?_
      refine g_iload_n rfl rfl ?_
      refine g_bald rfl (hW.byt hr) (by omega) ?_
      refine g_sipush (n := 255) rfl (by decide) ?_
      refine g_iand (v := ((hd r).2.2 (i).toNat) % 256) rfl (a_and255 _) ?_
      refine g_goto rfl rfl ?_
      exact r_i rfl rfl (by unfold rat; rw [if_pos (by omega), hF _ (by omega)]) rfl
theorem c_put (hW : WC K h g st cb sb) (hr : r < 125) (i b : Int) : Cal d yRw_put [aR (g r), aI i, aI b] h (RV none (fun h2 => WC K h2 g (uR st r (rput (st.1 r) i b)) cb sb)) := by
  obtain ⟨hd, hW⟩ := hW
  have hcap := hW.cap hr
  have hF := (hW.2.2.1 r hr).2.2.1
  show Go _ _ 0 [aR (g r), aI i, aI b] [] _ _
  refine g_iload_n rfl rfl ?_
  refine g_iflt rfl rfl (fun c1 => ?_) (fun c1 => ?_)
  · skip
    exact r_v rfl rfl (by rw [show rput (st.1 r) i b = st.1 r from by unfold rput; rw [if_neg (by omega)], uR_self]; exact ⟨hd, hW⟩)
  · skip
    refine g_iload_n rfl rfl ?_
    refine g_aload_n rfl rfl ?_
    refine g_get (ci := 2) (kk := 1) rfl rfl (hW.row hr) (hW.rowb hr) rfl ?_
    refine g_icmpge rfl rfl (fun c2 => ?_) (fun c2 => ?_)
    · skip
      exact r_v rfl rfl (by rw [show rput (st.1 r) i b = st.1 r from by unfold rput; rw [if_neg (by omega)], uR_self]; exact ⟨hd, hW⟩)
    · skip
      refine g_aload_n rfl rfl ?_
      refine g_get (ci := 2) (kk := 0) rfl rfl (hW.row hr) (hW.rowb hr) rfl ?_
      refine g_iload_n rfl rfl ?_
      refine g_iload_n rfl rfl ?_
      refine g_i2b rfl ?_
      refine g_bast rfl (hW.byt hr) (hW.bytb hr) (by omega) ?_
      generalize hg_hh3 : hput h ((hd r).1) (eA 1 ((hd r).2.1) (va_up (hd r).2.2 (i).toNat (a8 (a8 b)))) = hh3
      have hW2 : WC0 K hh3 g (va_up hd r ((hd r).1, (hd r).2.1, va_up (hd r).2.2 i.toNat (a8 (a8 b)))) (uR st r (rput (st.1 r) i b)) cb sb := by
        rw [← hg_hh3]
        refine hW.setb hr (rput_len _ _ _) (fun j hj => ?_) (rput_r8 (hW.2.2.1 r hr).2.2.2)
        rw [rput_len] at hj
        unfold rput
        rw [if_pos (by omega), getD_set (by omega), a8_of (a8_r b)]
        unfold va_up
        split
        · rfl
        · exact hF j hj
      exact r_v rfl rfl ⟨_, hW2⟩
theorem hput_hnew (h : AH) (e e' : AE) (n : Nat) : hput (hnew h e n) h.2.1 e' = hnew h e' n := by
  unfold hput hnew
  have : hup (hup h.1 h.2.1 e) h.2.1 e' = hup h.1 h.2.1 e' := funext fun j => by
    unfold hup
    split <;> rfl
  simp only [this]
theorem c_copyOf {a cap m : Nat} {F : Nat → Int} (hc : h.1 a = some (eA 1 cap F)) (hb : h.2.2.2.1 ≤ a) (ha : a < h.2.1) (h1 : cap < m) (h2 : m ≤ 10240) : Cal d yAr_copyOf [aR a, aI m] h (RV (some (aR h.2.1)) (fun h2 => h2 = hnew h (eA 1 m (va_cpy F (fun _ => 0) 0 0 cap)) m)) := by
  have hc1 : (hnew h (eA 1 m (fun _ => 0)) m).1 a = some (eA 1 cap F) := by rw [hnew_ne (by omega)]; exact hc
  rw [← hput_hnew h (eA 1 m (fun _ => 0))]
  obtain ⟨n, hn0⟩ : ∃ n : Int, n = (m : Int) := ⟨_, rfl⟩
  have hn : n.toNat = m := by omega
  rw [← hn0]
  show Go _ _ 0 [aR a, aI n, none] [] _ _
  refine g_iload_n rfl rfl ?_
  refine g_aload_n rfl rfl ?_
  refine g_alen rfl hc (by omega) ?_
  refine g_icmpne rfl rfl (fun c1 => ?_) (fun c => absurd c (by omega))
  refine g_iload_n rfl rfl ?_
  refine g_newa (kd := 1) rfl rfl (by omega) ?_
  rw [hn]
  refine g_astore_n (L' := [aR a, aI n, aR h.2.1]) rfl rfl ?_
  refine g_aload_n rfl rfl ?_
  refine g_iconst (n := 0) rfl (by decide) ?_
  refine g_aload_n rfl rfl ?_
  refine g_iconst (n := 0) rfl (by decide) ?_
  refine g_aload_n rfl rfl ?_
  refine g_alen rfl hc1 (by omega) ?_
  refine g_iload_n rfl rfl ?_
  refine g_min rfl rfl rfl (Nat.le_of_ble_eq_true rfl) ?_
  rw [if_pos (by omega)]
  refine g_copy (n0 := cap) (n1 := m) rfl rfl rfl hc1 hnew_eq ⟨Nat.le_of_ble_eq_true rfl, hb, Nat.le_trans hb (Nat.le_of_lt ha), by omega, by omega, by omega, by omega, by omega, by omega⟩ ?_
  refine g_aload_n rfl rfl ?_
  exact r_a rfl rfl rfl
def rcl (n : Int) : Int := if n ≤ 0 then 0 else if 10240 ≤ n then 10240 else n
def rsz (l : List Int) (n : Int) : List Int := l.take (rcl n).toNat ++ List.replicate ((rcl n).toNat - l.length) 0
theorem rcl_r (n : Int) : 0 ≤ rcl n ∧ rcl n ≤ 10240 := by
  unfold rcl
  split
  · omega
  · split <;> omega
theorem rsz_len (l : List Int) (n : Int) : (rsz l n).length = (rcl n).toNat := by
  unfold rsz
  simp
  omega
theorem rsz_get (l : List Int) (n : Int) (j : Nat) : (rsz l n).getD j 0 = if j < (rcl n).toNat then l.getD j 0 else 0 := by
  unfold rsz
  generalize (rcl n).toNat = m
  simp only [List.getD_eq_getElem?_getD, List.getElem?_append, List.length_take, List.getElem?_take, List.getElem?_replicate]
  by_cases h1 : j < m
  · by_cases h2 : j < l.length
    · rw [if_pos (by omega), if_pos h1, if_pos h1]
    · rw [if_neg (by omega), if_pos (by omega), if_pos h1, List.getElem?_eq_none (by omega)]
      rfl
  · rw [if_neg (by omega), if_neg (by omega), if_neg h1]
    rfl
theorem rsz_r8 {l : List Int} {n : Int} (h : ∀ v ∈ l, r8 v) : ∀ v ∈ rsz l n, r8 v := by
  intro v hv
  unfold rsz at hv
  rcases List.mem_append.mp hv with h1 | h1
  · exact h v (List.mem_of_mem_take h1)
  · rw [(List.mem_replicate.mp h1).2]
    exact ⟨by decide, by decide⟩
theorem getD_ge {l : List Int} {j : Nat} (h : l.length ≤ j) : l.getD j 0 = 0 := by
  rw [List.getD_eq_getElem?_getD, List.getElem?_eq_none h]
  rfl
theorem rs_loop (hr : r < 125) (n : Int) (cap : Nat) (hm : (rcl n).toNat ≤ cap) : ∀ (k : Nat) (i : Int) (hd : HD) (h : AH), (st.1 r).length ≤ i → i ≤ 10240 → (rcl n - i).toNat ≤ k → WC0 K h g hd st cb sb → True → (∀ j, j < i.toNat → (hd r).2.2 j = (st.1 r).getD j 0) → (hd r).2.1 = cap → Go d yRw_resize 66 [aR (g r), aI n, aI (rcl n), aI i] [] h (RV none (fun h2 => WC K h2 g (uR st r (rsz (st.1 r) n)) cb sb)) := by
  have hcl := rcl_r n
  intro k
  induction k with
  | zero =>
    intro i hd h h0 h1 hk hW _ hF hcp
    have hcap := hW.cap hr
    refine g_iload_n rfl rfl ?_
    refine g_iload_n rfl rfl ?_
    refine g_icmpge rfl rfl (fun c1 => ?_) (fun c => absurd c (by omega))
    refine g_aload_n rfl rfl ?_
    refine g_iload_n rfl rfl ?_
    refine g_put (ci := 2) (kk := 1) (fs' := [aR ((hd r).1), aI (rcl n)]) rfl rfl (hW.row hr) (hW.rowb hr) (Nat.le_of_ble_eq_true rfl) rfl (by decide) rfl ?_
    generalize hg_hh2 : hput h (g r) (eO 2 [aR ((hd r).1), aI (rcl n)]) = hh2
    have hW2 : WC0 K hh2 g hd (uR st r (rsz (st.1 r) n)) cb sb := by
      have e : (((rsz (st.1 r) n).length : Nat) : Int) = rcl n := by rw [rsz_len]; omega
      rw [← hg_hh2, ← e]
      refine hW.setlen hr (by rw [rsz_len]; omega) (fun j hj => ?_) (rsz_r8 (hW.2.2.1 r hr).2.2.2)
      rw [rsz_len] at hj
      rw [rsz_get, if_pos hj]
      exact hF j (by omega)
    exact r_v rfl rfl ⟨_, hW2⟩
  | succ k ih =>
    intro i hd h h0 h1 hk hW _ hF hcp
    have hcap := hW.cap hr
    refine g_iload_n rfl rfl ?_
    refine g_iload_n rfl rfl ?_
    refine g_icmpge rfl rfl (fun c1 => ?_) (fun c1 => ?_)
    · skip
      refine g_aload_n rfl rfl ?_
      refine g_iload_n rfl rfl ?_
      refine g_put (ci := 2) (kk := 1) (fs' := [aR ((hd r).1), aI (rcl n)]) rfl rfl (hW.row hr) (hW.rowb hr) (Nat.le_of_ble_eq_true rfl) rfl (by decide) rfl ?_
      generalize hg_hh2 : hput h (g r) (eO 2 [aR ((hd r).1), aI (rcl n)]) = hh2
      have hW2 : WC0 K hh2 g hd (uR st r (rsz (st.1 r) n)) cb sb := by
        have e : (((rsz (st.1 r) n).length : Nat) : Int) = rcl n := by rw [rsz_len]; omega
        rw [← hg_hh2, ← e]
        refine hW.setlen hr (by rw [rsz_len]; omega) (fun j hj => ?_) (rsz_r8 (hW.2.2.1 r hr).2.2.2)
        rw [rsz_len] at hj
        rw [rsz_get, if_pos hj]
        exact hF j (by omega)
      exact r_v rfl rfl ⟨_, hW2⟩
    · skip
      refine g_aload_n rfl rfl ?_
      refine g_get (ci := 2) (kk := 0) rfl rfl (hW.row hr) (hW.rowb hr) rfl ?_
      refine g_iload_n rfl rfl ?_
      refine g_iconst (n := 0) rfl (by decide) ?_
      refine g_bast rfl (hW.byt hr) (hW.bytb hr) (by omega) ?_
      generalize hg_hh3 : hput h ((hd r).1) (eA 1 ((hd r).2.1) (va_up (hd r).2.2 (i).toNat (a8 0))) = hh3
      have hW2 : WC0 K hh3 g (va_up hd r ((hd r).1, (hd r).2.1, va_up (hd r).2.2 i.toNat (a8 0))) st cb sb := by
        rw [← hg_hh3]
        refine hW.bytes hr (fun j hj => ?_)
        unfold va_up
        rw [if_neg (by omega)]
        exact hF j (by omega)
      have hc2 : (va_up hd r ((hd r).1, (hd r).2.1, va_up (hd r).2.2 i.toNat (a8 0)) r).2.1 = cap := by simp [va_up, hcp]
      have hF2 : ∀ j, j < (i + 1).toNat → (va_up hd r ((hd r).1, (hd r).2.1, va_up (hd r).2.2 i.toNat (a8 0)) r).2.2 j = (st.1 r).getD j 0 := fun j hj => by
        simp only [va_up, if_true]
        split
        · rename_i e
          rw [e, getD_ge (by omega)]
          decide
        · exact hF j (by omega)
      refine g_iinc (L' := [aR (g r), aI n, aI (rcl n), aI (i + 1)]) rfl rfl (by omega) rfl ?_
      refine g_goto rfl rfl ?_
      exact ih (i + 1) _ _ (by omega) (by omega) (by omega) hW2 trivial hF2 hc2
theorem c_resize (hd1 : 1 ≤ d) (hW : WC K h g st cb sb) (hr : r < 125) (n : Int) : Cal d yRw_resize [aR (g r), aI n] h (RV none (fun h2 => WC K h2 g (uR st r (rsz (st.1 r) n)) cb sb)) := by
  obtain ⟨hd, hW⟩ := hW
  have hcap := hW.cap hr
  have hcl := rcl_r n
  show Go _ _ 0 [aR (g r), aI n, none, none] [] _ _
  refine g_iconst (n := 0) rfl (by decide) ?_
  refine g_iload_n rfl rfl ?_
  refine g_sipush (n := 10240) rfl (by decide) ?_
  refine g_min rfl rfl rfl (Nat.le_of_ble_eq_true rfl) ?_
  rw [show (if n ≤ 10240 then n else 10240) = (if n ≤ 10240 then n else 10240) from rfl]
  refine g_max rfl rfl rfl (Nat.le_of_ble_eq_true rfl) ?_
  rw [show (if 0 ≤ (if n ≤ 10240 then n else 10240) then (if n ≤ 10240 then n else 10240) else 0) = rcl n from (by unfold rcl; split <;> split <;> (try split) <;> omega)]
  refine g_istore_n (L' := [aR (g r), aI n, aI (rcl n), none]) rfl rfl ?_
  refine g_iload_n rfl rfl ?_
  refine g_aload_n rfl rfl ?_
  refine g_get (ci := 2) (kk := 0) rfl rfl (hW.row hr) (hW.rowb hr) rfl ?_
  refine g_alen rfl (hW.byt hr) (by omega) ?_
  refine g_icmple rfl rfl (fun c1 => ?_) (fun c1 => ?_)
  · skip
    refine g_aload_n rfl rfl ?_
    refine g_get (ci := 2) (kk := 1) rfl rfl (hW.row hr) (hW.rowb hr) rfl ?_
    refine g_istore_n (L' := [aR (g r), aI n, aI (rcl n), aI (((st.1 r).length : Nat) : Int)]) rfl rfl ?_
    exact rs_loop hr n _ (by omega) ((rcl n).toNat) _ hd _ (by omega) (by omega) (by omega) hW trivial (fun j hj => (hW.2.2.1 r hr).2.2.1 j (by omega)) rfl
  · skip
    refine g_aload_n rfl rfl ?_
    refine g_aload_n rfl rfl ?_
    refine g_get (ci := 2) (kk := 0) rfl rfl (hW.row hr) (hW.rowb hr) rfl ?_
    refine g_iload_n rfl rfl ?_
    refine g_sipush (n := 128) rfl (by decide) ?_
    refine g_icmpgt rfl rfl (fun c2 => ?_) (fun c2 => ?_)
    · skip
      refine g_iload_n rfl rfl ?_
      refine g_sipush (n := 2048) rfl (by decide) ?_
      refine g_icmpgt rfl rfl (fun c3 => ?_) (fun c3 => ?_)
      · skip
        refine g_sipush (n := 10240) rfl (by decide) ?_
        have hcc := hW.2.2.1 r hr
        refine g_S (z := yAr_copyOf) (e := 1) (A := [aI 10240, aR (hd r).1]) (rest := [aR (g r)]) (v := aR h.2.1) rfl rfl rfl rfl rfl rfl (by omega) (c_copyOf (m := 10240) (hW.byt hr) (hW.bytb hr) (by have := (hW.1 (200 + r) (Or.inr (Or.inl (by omega)))).2.2.1; rw [ad_b hr] at this; exact this) (by omega) (by omega)) ?_
        rintro _ rfl
        have hgr : g r < h.2.1 := by have := (hW.1 r (Or.inl hr)).2.2.1; rw [ad_g (by omega)] at this; exact this
        refine g_put (ci := 2) (kk := 0) (fs' := [aR h.2.1, aI (((st.1 r).length : Nat) : Int)]) rfl rfl (by rw [hnew_ne (by omega)]; exact hW.row hr) (hW.rowb hr) (Nat.le_of_ble_eq_true rfl) rfl (by decide) rfl ?_
        have hW2 := hW.grow (r := r) (cap := 10240) (F := va_cpy (hd r).2.2 (fun _ => 0) 0 0 (hd r).2.1) hr (by unfold capok; omega) (by omega) (fun j hj => by unfold va_cpy; rw [if_pos (by omega)]; simpa using hcc.2.2.1 j hj)
        have hu : (va_up hd r (h.2.1, 10240, va_cpy (hd r).2.2 (fun _ => 0) 0 0 (hd r).2.1) r).2.1 = 10240 := by simp [va_up]
        generalize va_up hd r (h.2.1, 10240, va_cpy (hd r).2.2 (fun _ => 0) 0 0 (hd r).2.1) = hd2 at hW2 hu
        generalize hput (hnew h (eA 1 10240 (va_cpy (hd r).2.2 (fun _ => 0) 0 0 (hd r).2.1)) 10240) (g r) (eO 2 [aR h.2.1, aI (((st.1 r).length : Nat) : Int)]) = h3 at hW2 ⊢
        have hcap2 := hW2.cap hr
        refine g_aload_n rfl rfl ?_
        refine g_get (ci := 2) (kk := 1) rfl rfl (hW2.row hr) (hW2.rowb hr) rfl ?_
        refine g_istore_n (L' := [aR (g r), aI n, aI (rcl n), aI (((st.1 r).length : Nat) : Int)]) rfl rfl ?_
        exact rs_loop hr n _ (by omega) ((rcl n).toNat) _ hd2 _ (by omega) (by omega) (by omega) hW2 trivial (fun j hj => (hW2.2.2.1 r hr).2.2.1 j (by omega)) rfl
      · skip
        refine g_sipush (n := 2048) rfl (by decide) ?_
        refine g_goto rfl rfl ?_
        have hcc := hW.2.2.1 r hr
        refine g_S (z := yAr_copyOf) (e := 1) (A := [aI 2048, aR (hd r).1]) (rest := [aR (g r)]) (v := aR h.2.1) rfl rfl rfl rfl rfl rfl (by omega) (c_copyOf (m := 2048) (hW.byt hr) (hW.bytb hr) (by have := (hW.1 (200 + r) (Or.inr (Or.inl (by omega)))).2.2.1; rw [ad_b hr] at this; exact this) (by omega) (by omega)) ?_
        rintro _ rfl
        have hgr : g r < h.2.1 := by have := (hW.1 r (Or.inl hr)).2.2.1; rw [ad_g (by omega)] at this; exact this
        refine g_put (ci := 2) (kk := 0) (fs' := [aR h.2.1, aI (((st.1 r).length : Nat) : Int)]) rfl rfl (by rw [hnew_ne (by omega)]; exact hW.row hr) (hW.rowb hr) (Nat.le_of_ble_eq_true rfl) rfl (by decide) rfl ?_
        have hW2 := hW.grow (r := r) (cap := 2048) (F := va_cpy (hd r).2.2 (fun _ => 0) 0 0 (hd r).2.1) hr (by unfold capok; omega) (by omega) (fun j hj => by unfold va_cpy; rw [if_pos (by omega)]; simpa using hcc.2.2.1 j hj)
        have hu : (va_up hd r (h.2.1, 2048, va_cpy (hd r).2.2 (fun _ => 0) 0 0 (hd r).2.1) r).2.1 = 2048 := by simp [va_up]
        generalize va_up hd r (h.2.1, 2048, va_cpy (hd r).2.2 (fun _ => 0) 0 0 (hd r).2.1) = hd2 at hW2 hu
        generalize hput (hnew h (eA 1 2048 (va_cpy (hd r).2.2 (fun _ => 0) 0 0 (hd r).2.1)) 2048) (g r) (eO 2 [aR h.2.1, aI (((st.1 r).length : Nat) : Int)]) = h3 at hW2 ⊢
        have hcap2 := hW2.cap hr
        refine g_aload_n rfl rfl ?_
        refine g_get (ci := 2) (kk := 1) rfl rfl (hW2.row hr) (hW2.rowb hr) rfl ?_
        refine g_istore_n (L' := [aR (g r), aI n, aI (rcl n), aI (((st.1 r).length : Nat) : Int)]) rfl rfl ?_
        exact rs_loop hr n _ (by omega) ((rcl n).toNat) _ hd2 _ (by omega) (by omega) (by omega) hW2 trivial (fun j hj => (hW2.2.2.1 r hr).2.2.1 j (by omega)) rfl
    · skip
      refine g_sipush (n := 128) rfl (by decide) ?_
      refine g_goto rfl rfl ?_
      have hcc := hW.2.2.1 r hr
      refine g_S (z := yAr_copyOf) (e := 1) (A := [aI 128, aR (hd r).1]) (rest := [aR (g r)]) (v := aR h.2.1) rfl rfl rfl rfl rfl rfl (by omega) (c_copyOf (m := 128) (hW.byt hr) (hW.bytb hr) (by have := (hW.1 (200 + r) (Or.inr (Or.inl (by omega)))).2.2.1; rw [ad_b hr] at this; exact this) (by omega) (by omega)) ?_
      rintro _ rfl
      have hgr : g r < h.2.1 := by have := (hW.1 r (Or.inl hr)).2.2.1; rw [ad_g (by omega)] at this; exact this
      refine g_put (ci := 2) (kk := 0) (fs' := [aR h.2.1, aI (((st.1 r).length : Nat) : Int)]) rfl rfl (by rw [hnew_ne (by omega)]; exact hW.row hr) (hW.rowb hr) (Nat.le_of_ble_eq_true rfl) rfl (by decide) rfl ?_
      have hW2 := hW.grow (r := r) (cap := 128) (F := va_cpy (hd r).2.2 (fun _ => 0) 0 0 (hd r).2.1) hr (by unfold capok; omega) (by omega) (fun j hj => by unfold va_cpy; rw [if_pos (by omega)]; simpa using hcc.2.2.1 j hj)
      have hu : (va_up hd r (h.2.1, 128, va_cpy (hd r).2.2 (fun _ => 0) 0 0 (hd r).2.1) r).2.1 = 128 := by simp [va_up]
      generalize va_up hd r (h.2.1, 128, va_cpy (hd r).2.2 (fun _ => 0) 0 0 (hd r).2.1) = hd2 at hW2 hu
      generalize hput (hnew h (eA 1 128 (va_cpy (hd r).2.2 (fun _ => 0) 0 0 (hd r).2.1)) 128) (g r) (eO 2 [aR h.2.1, aI (((st.1 r).length : Nat) : Int)]) = h3 at hW2 ⊢
      have hcap2 := hW2.cap hr
      refine g_aload_n rfl rfl ?_
      refine g_get (ci := 2) (kk := 1) rfl rfl (hW2.row hr) (hW2.rowb hr) rfl ?_
      refine g_istore_n (L' := [aR (g r), aI n, aI (rcl n), aI (((st.1 r).length : Nat) : Int)]) rfl rfl ?_
      exact rs_loop hr n _ (by omega) ((rcl n).toNat) _ hd2 _ (by omega) (by omega) (by omega) hW2 trivial (fun j hj => (hW2.2.2.1 r hr).2.2.1 j (by omega)) rfl
end RowC
