/-! Reading: both sides take the same entries. -/
noncomputable def ENt (st : CS) (u : Nat) (l : List Int) (b : Int) : Int := pk (ckR l b) (pk (mrR l (b * 512)) (pk (numR l (b * 512)) (pk (kokR l (b * 512) (lnR l b)) (ENv st u l b) 6) 5) 4) 3
section Rd
variable {st ms X : CS} {u : Nat} {l P : List Int} {b : Int}
theorem feR_t (h : ¬ (l.length : Int) / 512 ≤ b) (h2 : ¬ zbR l b) : feR st u l b = ENt st u l b := (pk_f h).trans (pk_f h2)
theorem feR_1 (h : (l.length : Int) / 512 ≤ b) : feR st u l b = 1 := pk_t h
theorem feR_2 (h : ¬ (l.length : Int) / 512 ≤ b) (h2 : zbR l b) : feR st u l b = 2 := (pk_f h).trans (pk_t h2)
theorem FFv_c (l : List Int) (b : Int) : (FFv l b = 0 ∧ numR l (b * 512) ∧ kokR l (b * 512) (lnR l b) ∧ ∀ st u, ENt st u l b = ENv st u l b) ∨ (0 < FFv l b ∧ ∀ st u, ENt st u l b = FFv l b) := by
  unfold FFv ENt
  by_cases z3 : ckR l b
  · by_cases z4 : mrR l (b * 512)
    · by_cases z5 : numR l (b * 512)
      · by_cases z6 : kokR l (b * 512) (lnR l b)
        · exact Or.inl ⟨by rw [pk_t z3, pk_t z4, pk_t z5, pk_t z6], z5, z6, fun st u => by rw [pk_t z3, pk_t z4, pk_t z5, pk_t z6]⟩
        · right
          simp only [pk_t z3, pk_t z4, pk_t z5, pk_f z6]
          exact ⟨by decide, fun _ _ => trivial⟩
      · right
        simp only [pk_t z3, pk_t z4, pk_f z5]
        exact ⟨by decide, fun _ _ => trivial⟩
    · right
      simp only [pk_t z3, pk_f z4]
      exact ⟨by decide, fun _ _ => trivial⟩
  · right
    simp only [pk_f z3]
    exact ⟨by decide, fun _ _ => trivial⟩
theorem VQ.qdrR (h : VQ st ms u) (hc : 1 ≤ (st.2.2.2.1 u)) (P : List Int) : drR ms u P = drR st u P := by
  unfold drR
  rw [h.qlkl hc]
theorem VQ.qflR (h : VQ st ms u) (hc : 1 ≤ (st.2.2.2.1 u)) (l : List Int) (f k : Int) : flR ms u l f k = flR st u l f k := by
  unfold flR
  rw [h.qlkl hc]
theorem VQ.qENt (h : VQ st ms u) (hc : 1 ≤ (st.2.2.2.1 u)) (l : List Int) (b : Int) : ENt ms u l b = ENt st u l b := by
  have e1 : ∀ f k, pokR ms u l f k = pokR st u l f k := fun f k => by
    unfold pokR nokR
    rw [h.qdrR hc, propext (h.qisK _ _), h.qchl hc]
  have e2 : ∀ f k, tokR ms u l f k = tokR st u l f k := fun f k => by
    unfold tokR
    rw [h.qflR hc, propext (h.qisK _ _)]
  unfold ENt ENv
  rw [e1, e2, h.1]
theorem ffst_all {p : Nat → Prop} : ∀ (n i : Nat), ffst p n i = -1 → ∀ j, i ≤ j → j < i + n → ¬ p j := by
  intro n
  induction n with
  | zero => intro i _ j h1 h2; omega
  | succ n ih =>
    intro i h j h1 h2
    by_cases q : p i
    · rw [ffst_t q] at h
      omega
    · rw [ffst_f q] at h
      by_cases e : j = i
      · rw [e]; exact q
      · exact ih (i + 1) h j (by omega) (by omega)
theorem chl_m1 {a f e : Int} (h : chl st u P a f e = -1) {i : Nat} (h0 : 0 < i) (h1 : i < (st.2.2.2.1 u)) (hd : (st.2.1 (st.2.2.1 u i) 1) = a) (hs : sli ((st.1 (2 * st.2.2.1 u i))) P f e) : False := ffst_all _ _ h i (by omega) (by omega) ⟨hd, hs⟩
theorem sli_cps {f e : Int} (h0 : 0 ≤ f) (h1 : f ≤ e) (h2 : e ≤ P.length) : sli (cps P f e) P f e := ⟨h0, h2, by rw [cps_len]; omega, fun j hj => by rw [cps_len] at hj; exact cps_get hj⟩
theorem nmix_cps {f e : Int} (h : nmix P f e) (h0 : 0 ≤ f) : nmix (cps P f e) 0 ((cps P f e).length : Nat) := by
  obtain ⟨a, b, c⟩ := h
  have hl := cps_len P f e
  refine ⟨fun j _ hj => ?_, by omega, fun ⟨q1, q2⟩ => c ⟨fun j j0 j1 => ?_, by omega⟩⟩
  · rw [cps_get (by omega)]
    exact a (f.toNat + j) (by omega) (by omega)
  · have q := q1 (j - f.toNat) (by omega) (by omega)
    rw [cps_get (by omega), show f.toNat + (j - f.toNat) = j by omega] at q
    exact q
theorem r8_get (h : rowR8 P) (j : Nat) : r8 (P.getD j 0) := by
  by_cases q : j < P.length
  · rw [List.getD_eq_getElem?_getD, List.getElem?_eq_getElem q]
    exact h _ (List.getElem_mem q)
  · rw [List.getD_eq_getElem?_getD, List.getElem?_eq_none (by omega)]
    exact ⟨by decide, by decide⟩
theorem r8_oF {n : Nat} {f : Nat → Int} (h : ∀ j, j < n → r8 (f j)) : rowR8 (oF n f) := by
  intro v hv
  unfold oF at hv
  obtain ⟨j, hj, e⟩ := List.mem_map.mp hv
  rw [← e]
  exact h j (List.mem_range.mp hj)
theorem r8_cps (h : rowR8 P) {f e : Int} : rowR8 (cps P f e) := r8_oF fun j _ => r8_get h _
theorem r8_app {l m : List Int} (h : rowR8 l) (h2 : rowR8 m) : rowR8 (l ++ m) := fun v hv => (List.mem_append.mp hv).elim (h v) (h2 v)
theorem r8_ptR (h : rowR8 l) (f : Int) : rowR8 (ptR l f) := by
  have h1 : rowR8 (p1R l f) := r8_cps h
  have h2 : rowR8 (p2R l f) := r8_cps h
  unfold ptR pfR
  split
  · refine r8_app (r8_app h1 fun v hv => ?_) h2
    rw [List.mem_singleton.mp hv]
    exact ⟨by decide, by decide⟩
  · exact r8_app h1 h2
theorem kndR_r {f : Int} (h : kndR l f ≠ -1) : 0 ≤ kndR l f ∧ kndR l f ≤ 3 := by
  unfold kndR kndT at *
  split <;> omega
theorem tk_inj (st : CS) (u : Nat) (l : List Int) (b : Int) : (tkE st u l b).2.2.1 = st.2.2.1 := by
  unfold tkE tkS
  split <;> rfl
theorem tk_nx (hinj : ∀ i j, i < 30 → j < 30 → st.2.2.1 u i = st.2.2.1 u j → i = j) (hc : (st.2.2.2.1 u) < 30) (l : List Int) (b : Int) : NX st (tkE st u l b) u (kndR l (b * 512)) (drR st u (ptR l (b * 512))) (flR st u l (b * 512) (kndR l (b * 512))) (octv l (b * 512 + 100) 7) (octv l (b * 512 + 108) 7) (octv l (b * 512 + 136) 11) (cps (ptR l (b * 512)) (slsR (ptR l (b * 512)) + 1) (ntR (ptR l (b * 512)))) (if kndR l (b * 512) = 1 ∨ kndR l (b * 512) = 2 then bdR l b else []) := nx_tkS hinj hc _ _ _ _ _ _ _ _
theorem tk_ti (hT : TI st u) (hinj : ∀ i j, i < 30 → j < 30 → st.2.2.1 u i = st.2.2.1 u j → i = j) (h8 : rowR8 l) (h : feR st u l b = 0) : TI (tkE st u l b) u := by
  obtain ⟨_, hnum, hkok, hpok, htok, hc, hl, _⟩ := feR_0 h
  have hnt := ntR_c (ptR l (b * 512))
  have hls := lsl_r (ptR l (b * 512)) (ntR (ptR l (b * 512))).toNat
  have hsn : slsR (ptR l (b * 512)) = lsl (ptR l (b * 512)) (ntR (ptR l (b * 512))).toNat := rfl
  have hn1 := hpok.2.2.1.2.1
  have hn2 := hpok.2.2.2.1
  have o1 := octv_r hnum.1
  have o2 := octv_r hnum.2.2.1
  have o3 := octv_r hnum.2.2.2.2.1
  have o4 : 0 ≤ lnR l b ∧ lnR l b < 8 ^ 11 := octv_r hnum.2.2.2.1
  refine hT.more hc (tk_nx hinj hc l b) (kndR_r hkok.1) hpok.2.2.2.2.1 ⟨nmix_cps hpok.2.2.1 (by omega), by rw [cps_len]; omega, r8_cps (r8_ptR h8 _)⟩ (fun i i0 i1 e1 e2 => chl_m1 hpok.2.2.2.2.2 i0 i1 e1 (by rw [e2]; exact sli_cps (by omega) (by omega) (by omega))) ⟨htok.2.2.1, fun q => by unfold flR; rw [if_neg q]⟩ ⟨fun q => ?_, fun q => ?_, fun q q2 => by rw [if_neg (by omega)]⟩ ⟨⟨o1.1, hnum.2.1⟩, ⟨o2.1, by omega⟩, o3.1, hnum.2.2.2.2.2.1⟩
  · rw [if_pos (Or.inl q)]
    unfold bdR
    rw [if_neg (by omega), cps_len]
    omega
  · rw [if_pos (Or.inr q)]
    unfold bdR
    rw [if_pos q, tg_len]
    exact tx_le _ _ _
/-- a tree of its root alone -/
def ONE (st : CS) (u : Nat) : Prop := (st.2.2.2.1 u) = 1 ∧ (st.2.1 (st.2.2.1 u 0) 0) = 0 ∧ (st.2.1 (st.2.2.1 u 0) 1) = -1 ∧ (st.2.1 (st.2.2.1 u 0) 2) = -1 ∧ (st.2.1 (st.2.2.1 u 0) 3) = 0 ∧ (st.2.1 (st.2.2.1 u 0) 4) = 0 ∧ (st.2.1 (st.2.2.1 u 0) 5) = 0 ∧ (st.1 (2 * st.2.2.1 u 0)) = [] ∧ (st.1 (2 * st.2.2.1 u 0 + 1)) = []
theorem ONE.ti (h : ONE st u) : TI st u := by
  obtain ⟨hC, k0, k1, k2, k3, k4, k5, hn, hb⟩ := h
  refine ⟨by omega, fun i h0 h1 => by omega, fun i h1 => ?_, fun i j i0 i1 => by omega, fun i h0 h1 => by omega, fun i h1 => ?_, fun i h1 => ?_, ⟨k0, k1, hn⟩, fun i h1 => ?_⟩ <;> obtain rfl : i = 0 := by omega
  · rw [k0]
    omega
  · rw [k0, k2]
    exact ⟨fun q => absurd q (by decide), fun _ => rfl⟩
  · rw [k0, hb]
    exact ⟨fun q => absurd q (by decide), fun q => absurd q (by decide), fun _ _ => rfl⟩
  · rw [k3, k4, k5]
    omega
theorem ONE.vq (h : ONE st u) (g : ONE ms u) : VQ st ms u := by
  obtain ⟨hC, k0, k1, k2, k3, k4, k5, hn, hb⟩ := h
  obtain ⟨gC, g0, g1, g2, g3, g4, g5, gn, gb⟩ := g
  refine ⟨by omega, fun i hi => ?_⟩
  obtain rfl : i = 0 := by omega
  refine ⟨fun k hk => ?_, gn.trans hn.symm, gb.trans hb.symm⟩
  rcases (by omega : k = 0 ∨ k = 1 ∨ k = 2 ∨ k = 3 ∨ k = 4 ∨ k = 5) with w | w | w | w | w | w <;> subst w
  · exact g0.trans k0.symm
  · exact g1.trans k1.symm
  · exact g2.trans k2.symm
  · exact g3.trans k3.symm
  · exact g4.trans k4.symm
  · exact g5.trans k5.symm
theorem clrS_one (st : CS) (u : Nat) : ONE (clrS st u) u := by
  unfold ONE clrS bgn uN uC uR va_up
  simp
end Rd
