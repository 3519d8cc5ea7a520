/-! What goes with a node that is removed, and what is left. -/
def fN (st : CS) (t i : Nat) : Nat := ((st.2.1 (st.2.2.1 t i) 2)).toNat
def gnF (st : CS) (t num : Nat) : Nat → Nat → Prop
  | 0, i => i = num
  | f + 1, i => i = num ∨ (0 < i ∧ (gnF st t num f (dN st t i) ∨ ((st.2.1 (st.2.2.1 t i) 0) = 3 ∧ gnF st t num f (fN st t i))))
def gn (st : CS) (t num i : Nat) : Prop := gnF st t num i i
noncomputable def kp (st : CS) (t num i : Nat) : Nat := sumN (fun j => wt (¬ gn st t num j) 1) i
noncomputable def nw (st : CS) (t num i : Nat) : Int := @ite Int (gn st t num i) (Classical.propDecidable _) (-1) (kp st t num i)
noncomputable def nwI (st : CS) (t num : Nat) (x : Int) : Int := if 0 ≤ x ∧ x < (st.2.2.2.1 t) then nw st t num x.toNat else -1
def DR (st st' : CS) (t num : Nat) : Prop := (st'.2.2.2.1 t) = kp st t num ((st.2.2.2.1 t)) ∧ ∀ i, i < (st.2.2.2.1 t) → ¬ gn st t num i → (st'.2.1 (st'.2.2.1 t (kp st t num i)) 0) = (st.2.1 (st.2.2.1 t i) 0) ∧ (st'.2.1 (st'.2.2.1 t (kp st t num i)) 1) = nwI st t num ((st.2.1 (st.2.2.1 t i) 1)) ∧ (st'.2.1 (st'.2.2.1 t (kp st t num i)) 2) = nwI st t num ((st.2.1 (st.2.2.1 t i) 2)) ∧ (st'.2.1 (st'.2.2.1 t (kp st t num i)) 3) = (st.2.1 (st.2.2.1 t i) 3) ∧ (st'.2.1 (st'.2.2.1 t (kp st t num i)) 4) = (st.2.1 (st.2.2.1 t i) 4) ∧ (st'.2.1 (st'.2.2.1 t (kp st t num i)) 5) = (st.2.1 (st.2.2.1 t i) 5) ∧ (st'.1 (2 * st'.2.2.1 t (kp st t num i))) = (st.1 (2 * st.2.2.1 t i)) ∧ (st'.1 (2 * st'.2.2.1 t (kp st t num i) + 1)) = (st.1 (2 * st.2.2.1 t i + 1))
section Drop
variable {st st' ms ms' : CS} {t num : Nat}
theorem nw_t {i : Nat} (h : gn st t num i) : nw st t num i = -1 := @if_pos _ (Classical.propDecidable _) h _ _ _
theorem nw_f {i : Nat} (h : ¬ gn st t num i) : nw st t num i = kp st t num i := @if_neg _ (Classical.propDecidable _) h _ _ _
theorem gn_0 : gn st t num 0 ↔ 0 = num := Iff.rfl
theorem TI.fn (h : TI st t) {i : Nat} (hi : i < (st.2.2.2.1 t)) (hk : (st.2.1 (st.2.2.1 t i) 0) = 3) : fN st t i < i := by
  have := (h.f i hi).1 hk
  unfold fN
  omega
theorem gnF_fuel (h : TI st t) : ∀ f g i, i ≤ f → i ≤ g → i < (st.2.2.2.1 t) → (gnF st t num f i ↔ gnF st t num g i) := by
  intro f
  induction f with
  | zero =>
    intro g i h1 h2 h3
    have : i = 0 := by omega
    subst this
    cases g with
    | zero => exact Iff.rfl
    | succ g => simp [gnF]
  | succ f ih =>
    intro g i h1 h2 h3
    cases g with
    | zero =>
      have : i = 0 := by omega
      subst this
      simp [gnF]
    | succ g =>
      unfold gnF
      by_cases h0 : 0 < i
      · have := h.dn i h0 h3
        rw [propext (ih g (dN st t i) (by omega) (by omega) (by omega))]
        by_cases hk : (st.2.1 (st.2.2.1 t i) 0) = 3
        · have := h.fn h3 hk
          rw [propext (ih g (fN st t i) (by omega) (by omega) (by omega))]
        · simp [hk]
      · simp [h0]
theorem gn_s (h : TI st t) {i : Nat} (h0 : 0 < i) (hi : i < (st.2.2.2.1 t)) : gn st t num i ↔ (i = num ∨ gn st t num (dN st t i) ∨ ((st.2.1 (st.2.2.1 t i) 0) = 3 ∧ gn st t num (fN st t i))) := by
  have h1 := h.dn i h0 hi
  obtain ⟨u, rfl⟩ : ∃ u, i = u + 1 := ⟨i - 1, by omega⟩
  show gnF st t num (u + 1) (u + 1) ↔ _
  unfold gnF
  have e1 := gnF_fuel (num := num) h u (dN st t (u + 1)) (dN st t (u + 1)) (by omega) (by omega) (by omega)
  rw [propext e1]
  by_cases hk : (st.2.1 (st.2.2.1 t (u + 1)) 0) = 3
  · have := h.fn hi hk
    have e2 := gnF_fuel (num := num) h u (fN st t (u + 1)) (fN st t (u + 1)) (by omega) (by omega) (by omega)
    rw [propext e2]
    simp [gn]
  · simp [hk, gn]
theorem kp_s (i : Nat) : kp st t num (i + 1) = kp st t num i + wt (¬ gn st t num i) 1 := rfl
theorem kp_t {i : Nat} (h : ¬ gn st t num i) : kp st t num (i + 1) = kp st t num i + 1 := by rw [kp_s, wt_t h]
theorem kp_f {i : Nat} (h : gn st t num i) : kp st t num (i + 1) = kp st t num i := by rw [kp_s, wt_f (fun q => q h)]; rfl
theorem kp_le (i : Nat) : kp st t num i ≤ i := by
  induction i with
  | zero => exact Nat.le_refl _
  | succ i ih =>
    by_cases h : gn st t num i
    · rw [kp_f h]; omega
    · rw [kp_t h]; omega
theorem kp_mono (i n : Nat) : kp st t num i ≤ kp st t num (i + n) := by
  induction n with
  | zero => exact Nat.le_refl _
  | succ n ih =>
    show _ ≤ kp st t num (i + n + 1)
    by_cases h : gn st t num (i + n)
    · rw [kp_f h]; exact ih
    · rw [kp_t h]; omega
theorem kp_lt {i j : Nat} (h : ¬ gn st t num i) (hij : i < j) : kp st t num i < kp st t num j := by
  have := kp_mono (st := st) (t := t) (num := num) (i + 1) (j - (i + 1))
  rw [kp_t h, show i + 1 + (j - (i + 1)) = j by omega] at this
  omega
theorem kp_inj {i j : Nat} (hi : ¬ gn st t num i) (hj : ¬ gn st t num j) (h : kp st t num i = kp st t num j) : i = j := by
  rcases Nat.lt_trichotomy i j with q | q | q
  · have := kp_lt hi q; omega
  · exact q
  · have := kp_lt hj q; omega
theorem kp_sur {k : Nat} : ∀ n, k < kp st t num n → ∃ i, i < n ∧ ¬ gn st t num i ∧ kp st t num i = k := by
  intro n
  induction n with
  | zero => intro h; exact absurd h (Nat.not_lt_zero _)
  | succ n ih =>
    intro h
    by_cases hg : gn st t num n
    · rw [kp_f hg] at h
      obtain ⟨i, h1, h2⟩ := ih h
      exact ⟨i, by omega, h2⟩
    · rw [kp_t hg] at h
      by_cases e : k = kp st t num n
      · exact ⟨n, by omega, hg, e.symm⟩
      · obtain ⟨i, h1, h2⟩ := ih (by omega)
        exact ⟨i, by omega, h2⟩
theorem VQ.qgn (h : VQ st ms t) (hT : TI st t) {i : Nat} (hi : i < (st.2.2.2.1 t)) : gn ms t num i ↔ gn st t num i := by
  have hM := h.ti hT
  have e := h.1
  have : ∀ n i, i < n → i < (st.2.2.2.1 t) → (gn ms t num i ↔ gn st t num i) := by
    intro n
    induction n with
    | zero => intro i q; omega
    | succ n ih =>
      intro i h1 h2
      by_cases h0 : 0 < i
      · rw [gn_s hM h0 (by omega), gn_s hT h0 h2]
        have a := (h.2 i h2).1
        have d1 := hT.dn i h0 h2
        have e1 : dN ms t i = dN st t i := by unfold dN; rw [a 1 (by omega)]
        have e2 : fN ms t i = fN st t i := by unfold fN; rw [a 2 (by omega)]
        rw [e1, e2, a 0 (by omega), ih (dN st t i) (by omega) (by omega)]
        by_cases hk : (st.2.1 (st.2.2.1 t i) 0) = 3
        · have := hT.fn h2 hk
          rw [ih (fN st t i) (by omega) (by omega)]
        · simp [hk]
      · have : i = 0 := by omega
        subst this
        exact Iff.rfl
  exact this (i + 1) i (by omega) hi
theorem VQ.qkp (h : VQ st ms t) (hT : TI st t) : ∀ {i : Nat}, i ≤ (st.2.2.2.1 t) → kp ms t num i = kp st t num i := by
  intro i
  induction i with
  | zero => intro _; rfl
  | succ i ih =>
    intro hi
    rw [kp_s, kp_s, ih (by omega), propext (h.qgn hT (num := num) (i := i) (by omega))]
theorem VQ.qnwI (h : VQ st ms t) (hT : TI st t) (x : Int) : nwI ms t num x = nwI st t num x := by
  unfold nwI
  rw [h.1]
  by_cases hp : 0 ≤ x ∧ x < (st.2.2.2.1 t)
  · rw [if_pos hp, if_pos hp]
    unfold nw
    rw [propext (h.qgn hT (num := num) (i := x.toNat) (by omega)), h.qkp hT (by omega)]
  · rw [if_neg hp, if_neg hp]
/-- what is left looks alike -/
theorem VQ.drop (h : VQ st ms t) (hT : TI st t) (d1 : DR st st' t num) (d2 : DR ms ms' t num) : VQ st' ms' t := by
  have hc : (ms'.2.2.2.1 t) = (st'.2.2.2.1 t) := by rw [d1.1, d2.1, h.1, h.qkp hT (Nat.le_refl _)]
  refine ⟨hc, fun k hk => ?_⟩
  rw [d1.1] at hk
  obtain ⟨i, h1, h2, rfl⟩ := kp_sur _ hk
  have h3 : ¬ gn ms t num i := fun q => h2 ((h.qgn hT h1).1 q)
  obtain ⟨a0, a1, a2, a3, a4, a5, a6, a7⟩ := d1.2 i h1 h2
  obtain ⟨b0, b1, b2, b3, b4, b5, b6, b7⟩ := d2.2 i (by rw [h.1]; exact h1) h3
  rw [h.qkp hT (by omega)] at b0 b1 b2 b3 b4 b5 b6 b7
  obtain ⟨c1, c2, c3⟩ := h.2 i h1
  refine ⟨fun k hk => ?_, by rw [a6, b6, c2], by rw [a7, b7, c3]⟩
  rcases (by omega : k = 0 ∨ k = 1 ∨ k = 2 ∨ k = 3 ∨ k = 4 ∨ k = 5) with q | q | q | q | q | q <;> subst q
  · rw [a0, b0, c1 0 (by omega)]
  · rw [a1, b1, c1 1 (by omega), h.qnwI hT]
  · rw [a2, b2, c1 2 (by omega), h.qnwI hT]
  · rw [a3, b3, c1 3 (by omega)]
  · rw [a4, b4, c1 4 (by omega)]
  · rw [a5, b5, c1 5 (by omega)]
theorem TI.drop (h : TI st t) (hn : 0 < num) (d : DR st st' t num) : TI st' t := by
  have hc := h.c
  have g0 : ¬ gn st t num 0 := fun q => by have := gn_0.1 q; omega
  have k0 : kp st t num 0 = 0 := rfl
  have up : ∀ {i : Nat}, 0 < i → i < (st.2.2.2.1 t) → ¬ gn st t num i → ¬ gn st t num (dN st t i) ∧ nwI st t num ((st.2.1 (st.2.2.1 t i) 1)) = kp st t num (dN st t i) := fun {i} h0 h1 h2 => by
    have a := h.d i h0 h1
    have b : ¬ gn st t num (dN st t i) := fun q => h2 ((gn_s h h0 h1).2 (Or.inr (Or.inl q)))
    refine ⟨b, ?_⟩
    unfold nwI
    rw [if_pos ⟨by omega, by omega⟩]
    exact nw_f b
  have kpos : ∀ {i : Nat}, ¬ gn st t num i → 0 < kp st t num i → 0 < i := fun {i} _ q => by
    rcases Nat.eq_zero_or_pos i with e | e
    · subst e; exact absurd q (Nat.lt_irrefl 0)
    · exact e
  refine ⟨?_, fun k h0 h1 => ?_, fun k h1 => ?_, fun k l k0' k1 l0 l1 e1 e2 => ?_, fun k h0 h1 => ?_, fun k h1 => ?_, fun k h1 => ?_, ?_, fun k h1 => ?_⟩
  · rw [d.1]
    have := kp_lt (j := (st.2.2.2.1 t)) g0 (by omega)
    have := kp_le (st := st) (t := t) (num := num) ((st.2.2.2.1 t))
    omega
  · rw [d.1] at h1
    obtain ⟨i, i1, i2, rfl⟩ := kp_sur _ h1
    have i0 := kpos i2 h0
    obtain ⟨a0, a1, a2, a3, a4, a5, a6, a7⟩ := d.2 i i1 i2
    obtain ⟨u1, u2⟩ := up i0 i1 i2
    have hd := h.d i i0 i1
    have hdn := h.dn i i0 i1
    rw [a1, u2, Int.toNat_natCast]
    refine ⟨by omega, by have := kp_lt u1 hdn; omega, ?_⟩
    rw [(d.2 (dN st t i) (by omega) u1).1]
    exact hd.2.2
  · rw [d.1] at h1
    obtain ⟨i, i1, i2, rfl⟩ := kp_sur _ h1
    rw [(d.2 i i1 i2).1]
    exact h.k i i1
  · rw [d.1] at k1 l1
    obtain ⟨i, i1, i2, rfl⟩ := kp_sur _ k1
    obtain ⟨j, j1, j2, rfl⟩ := kp_sur _ l1
    have i0 := kpos i2 k0'
    have j0 := kpos j2 l0
    obtain ⟨a0, a1, a2, a3, a4, a5, a6, a7⟩ := d.2 i i1 i2
    obtain ⟨b0, b1, b2, b3, b4, b5, b6, b7⟩ := d.2 j j1 j2
    obtain ⟨u1, u2⟩ := up i0 i1 i2
    obtain ⟨v1, v2⟩ := up j0 j1 j2
    rw [a1, b1, u2, v2] at e1
    rw [a6, b6] at e2
    have := kp_inj u1 v1 (by omega)
    rw [h.u i j i0 i1 j0 j1 (by rw [← h.dc i0 i1, ← h.dc j0 j1, this]) e2]
  · rw [d.1] at h1
    obtain ⟨i, i1, i2, rfl⟩ := kp_sur _ h1
    obtain ⟨a0, a1, a2, a3, a4, a5, a6, a7⟩ := d.2 i i1 i2
    rw [a6]
    exact h.n i (kpos i2 h0) i1
  · rw [d.1] at h1
    obtain ⟨i, i1, i2, rfl⟩ := kp_sur _ h1
    obtain ⟨a0, a1, a2, a3, a4, a5, a6, a7⟩ := d.2 i i1 i2
    have q := h.f i i1
    rw [a0, a2]
    refine ⟨fun w => ?_, fun w => ?_⟩
    · have q3 := q.1 w
      have i0 : 0 < i := by omega
      have g2 : ¬ gn st t num (fN st t i) := fun z => i2 ((gn_s h i0 i1).2 (Or.inr (Or.inr ⟨w, z⟩)))
      have hf := h.fn i1 w
      have e : nwI st t num ((st.2.1 (st.2.2.1 t i) 2)) = kp st t num (fN st t i) := by
        unfold nwI
        rw [if_pos ⟨by omega, by omega⟩]
        exact nw_f g2
      rw [e, Int.toNat_natCast]
      refine ⟨by omega, by have := kp_lt g2 hf; omega, ?_⟩
      rw [(d.2 (fN st t i) (by omega) g2).1]
      exact q3.2.2
    · rw [q.2 w]
      rfl
  · rw [d.1] at h1
    obtain ⟨i, i1, i2, rfl⟩ := kp_sur _ h1
    obtain ⟨a0, a1, a2, a3, a4, a5, a6, a7⟩ := d.2 i i1 i2
    rw [a0, a7]
    exact h.b i i1
  · obtain ⟨a0, a1, a2, a3, a4, a5, a6, a7⟩ := d.2 0 (by omega) g0
    rw [k0] at a0 a1 a6
    have r := h.r
    refine ⟨by rw [a0]; exact r.1, ?_, by rw [a6]; exact r.2.2⟩
    rw [a1, r.2.1]
    rfl
  · rw [d.1] at h1
    obtain ⟨i, i1, i2, rfl⟩ := kp_sur _ h1
    obtain ⟨a0, a1, a2, a3, a4, a5, a6, a7⟩ := d.2 i i1 i2
    rw [a3, a4, a5]
    exact h.v i i1
end Drop
