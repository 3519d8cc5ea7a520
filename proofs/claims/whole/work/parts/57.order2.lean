/-! The reference: it writes a tree. -/
section Ord
variable {st : CS} {t : Nat} {O : Nat → Int}
theorem cN_sur {i : Nat} : ∀ p : Nat, i < cNn st t p → ∃ j, j < p ∧ (st.2.1 (st.2.2.1 t (sqX st t (j + 1))) 0) ≠ 3 ∧ cNn st t j = i := by
  intro p
  induction p with
  | zero => intro h; exact absurd h (Nat.not_lt_zero _)
  | succ p ih =>
    intro h
    rw [cN_s] at h
    by_cases hk : (st.2.1 (st.2.2.1 t (sqX st t (p + 1))) 0) = 3
    · rw [if_pos hk] at h
      obtain ⟨j, h1, h2⟩ := ih (by omega)
      exact ⟨j, by omega, h2⟩
    · rw [if_neg hk] at h
      by_cases e : i = cNn st t p
      · exact ⟨p, by omega, hk, e.symm⟩
      · obtain ⟨j, h1, h2⟩ := ih (by omega)
        exact ⟨j, by omega, h2⟩
theorem cH_sur {i : Nat} : ∀ p : Nat, i < cHh st t p → ∃ j, j < p ∧ (st.2.1 (st.2.2.1 t (sqX st t (j + 1))) 0) = 3 ∧ cHh st t j = i := by
  intro p
  induction p with
  | zero => intro h; exact absurd h (Nat.not_lt_zero _)
  | succ p ih =>
    intro h
    rw [cH_s] at h
    by_cases hk : (st.2.1 (st.2.2.1 t (sqX st t (p + 1))) 0) = 3
    · rw [if_pos hk] at h
      by_cases e : i = cHh st t p
      · exact ⟨p, by omega, hk, e.symm⟩
      · obtain ⟨j, h1, h2⟩ := ih (by omega)
        exact ⟨j, by omega, h2⟩
    · rw [if_neg hk] at h
      obtain ⟨j, h1, h2⟩ := ih (by omega)
      exact ⟨j, by omega, h2⟩
/-- what stands at i in the order -/
theorem ord_ix (hO : ordA st t O) {i : Nat} (hi : i + 1 < (st.2.2.2.1 t)) : ∃ j, j + 1 < (st.2.2.2.1 t) ∧ O i = sqX st t (j + 1) ∧ (((st.2.1 (st.2.2.1 t (sqX st t (j + 1))) 0) ≠ 3 ∧ i = cNn st t j) ∨ ((st.2.1 (st.2.2.1 t (sqX st t (j + 1))) 0) = 3 ∧ i = cNn st t ((st.2.2.2.1 t) - 1) + cHh st t j)) := by
  have hnh := cNH st t ((st.2.2.2.1 t) - 1)
  by_cases h : i < cNn st t ((st.2.2.2.1 t) - 1)
  · obtain ⟨j, h1, h2, h3⟩ := cN_sur _ h
    refine ⟨j, by omega, ?_, Or.inl ⟨h2, h3.symm⟩⟩
    rw [← h3]
    exact (hO j (by omega)).1 h2
  · obtain ⟨j, h1, h2, h3⟩ := cH_sur (st := st) (t := t) (i := i - cNn st t ((st.2.2.2.1 t) - 1)) ((st.2.2.2.1 t) - 1) (by omega)
    refine ⟨j, by omega, ?_, Or.inr ⟨h2, by omega⟩⟩
    have := (hO j (by omega)).2 h2
    rw [h3, show cNn st t ((st.2.2.2.1 t) - 1) + (i - cNn st t ((st.2.2.2.1 t) - 1)) = i by omega] at this
    exact this
theorem ord_r (hT : TI st t) (hO : ordA st t O) {i : Nat} (hi : i + 1 < (st.2.2.2.1 t)) : 0 < O i ∧ O i < (st.2.2.2.1 t) := by
  obtain ⟨j, h1, h2, h3⟩ := ord_ix hO hi
  obtain ⟨u1, u2, u3⟩ := hT.seq.1 (j + 1) h1
  have := u3 (by omega)
  omega
theorem ord_inj (hT : TI st t) (hO : ordA st t O) {i i' : Nat} (hi : i + 1 < (st.2.2.2.1 t)) (hi' : i' + 1 < (st.2.2.2.1 t)) (e : O i = O i') : i = i' := by
  obtain ⟨j, h1, h2, h3⟩ := ord_ix hO hi
  obtain ⟨j', k1, k2, k3⟩ := ord_ix hO hi'
  have ej := hT.sinj (j + 1) (j' + 1) h1 k1 (by omega)
  obtain rfl : j = j' := by omega
  rcases h3 with ⟨a1, a2⟩ | ⟨a1, a2⟩ <;> rcases k3 with ⟨b1, b2⟩ | ⟨b1, b2⟩
  · omega
  · exact absurd b1 a1
  · exact absurd a1 b1
  · omega
def ordX (O : Nat → Int) (k : Nat) : Nat := if k = 0 then 0 else (O (k - 1)).toNat
theorem ordX_ok (hT : TI st t) (hO : ordA st t O) : (∀ k, k < (st.2.2.2.1 t) → ordX O k < (st.2.2.2.1 t)) ∧ (∀ j k, j < (st.2.2.2.1 t) → k < (st.2.2.2.1 t) → ordX O j = ordX O k → j = k) := by
  have hc := hT.c
  constructor
  · intro k hk
    unfold ordX
    by_cases z : k = 0
    · rw [if_pos z]; omega
    · rw [if_neg z]
      have := ord_r hT hO (i := k - 1) (by omega)
      omega
  · intro j k hj hk e
    unfold ordX at e
    by_cases zj : j = 0
    · by_cases zk : k = 0
      · omega
      · rw [if_pos zj, if_neg zk] at e
        have := ord_r hT hO (i := k - 1) (by omega)
        omega
    · have rj := ord_r hT hO (i := j - 1) (by omega)
      by_cases zk : k = 0
      · rw [if_neg zj, if_pos zk] at e
        omega
      · rw [if_neg zj, if_neg zk] at e
        have rk := ord_r hT hO (i := k - 1) (by omega)
        have := ord_inj hT hO (i := j - 1) (i' := k - 1) (by omega) (by omega) (by omega)
        omega
theorem ord_sum (hT : TI st t) (hO : ordA st t O) (f : Nat → Nat) : sumN (fun i => f (O i).toNat) ((st.2.2.2.1 t) - 1) + f 0 = sumN f ((st.2.2.2.1 t)) := by
  have hc := hT.c
  rw [← sm_perm (ordX_ok hT hO).1 (ordX_ok hT hO).2 f]
  have e : ∀ n, sumN (fun i => f (O i).toNat) n + f 0 = sumN (fun k => f (ordX O k)) (n + 1) := by
    intro n
    induction n with
    | zero => rfl
    | succ n ih =>
      have h1 : sumN (fun i => f (O i).toNat) (n + 1) = sumN (fun i => f (O i).toNat) n + f (O n).toNat := rfl
      have h2 : sumN (fun k => f (ordX O k)) (n + 1 + 1) = sumN (fun k => f (ordX O k)) (n + 1) + f (ordX O (n + 1)) := rfl
      have h3 : ordX O (n + 1) = (O n).toNat := rfl
      rw [h1, h2, h3, ← ih]
      omega
  have h9 := e ((st.2.2.2.1 t) - 1)
  rw [show (st.2.2.2.1 t) - 1 + 1 = (st.2.2.2.1 t) by omega] at h9
  exact h9
theorem ord_sur (hT : TI st t) (hO : ordA st t O) {i : Nat} (h0 : 0 < i) (hi : i < (st.2.2.2.1 t)) : ∃ k, k + 1 < (st.2.2.2.1 t) ∧ O k = i := by
  obtain ⟨k, h1, h2⟩ := sm_surj (ordX_ok hT hO).1 (ordX_ok hT hO).2 hi
  unfold ordX at h2
  by_cases z : k = 0
  · rw [if_pos z] at h2
    omega
  · rw [if_neg z] at h2
    have := ord_r hT hO (i := k - 1) (by omega)
    exact ⟨k - 1, by omega, by omega⟩
noncomputable def oeF (st : CS) (t : Nat) (O : Nat → Int) (X : List Int × Int) : Nat → List Int × Int
  | 0 => X
  | i + 1 => entW st t (O i).toNat (oeF st t O X i)
theorem peF_snoc (hard : Int) : ∀ (n k : Nat) (X : List Int × Int), peF st t hard (n + 1) k X = if pz (isK st t (sqX st t (k + n)) 3) = hard then entW st t (sqX st t (k + n)) (peF st t hard n k X) else peF st t hard n k X := by
  intro n
  induction n with
  | zero => intro k X; rfl
  | succ n ih =>
    intro k X
    rw [show peF st t hard (n + 1 + 1) k X = peF st t hard (n + 1) (k + 1) (if pz (isK st t (sqX st t k) 3) = hard then entW st t (sqX st t k) X else X) from rfl, ih, show k + 1 + n = k + (n + 1) by omega]
    rfl
theorem oe_pe (hT : TI st t) (hO : ordA st t O) (X : List Int × Int) : oeF st t O X ((st.2.2.2.1 t) - 1) = peF st t 1 ((st.2.2.2.1 t) - 1) 1 (peF st t 0 ((st.2.2.2.1 t) - 1) 1 X) := by
  have hc := hT.c
  have hnh := cNH st t ((st.2.2.2.1 t) - 1)
  have isk : ∀ j, j + 1 < (st.2.2.2.1 t) → (isK st t (sqX st t (j + 1)) 3 ↔ (st.2.1 (st.2.2.1 t (sqX st t (j + 1))) 0) = 3) := fun j hj => by
    obtain ⟨u1, u2, u3⟩ := hT.seq.1 (j + 1) hj
    unfold isK
    rw [Int.toNat_natCast]
    exact ⟨fun z => z.2.2, fun z => ⟨by omega, by omega, z⟩⟩
  have e1 : ∀ p, p ≤ (st.2.2.2.1 t) - 1 → oeF st t O X (cNn st t p) = peF st t 0 p 1 X := by
    intro p
    induction p with
    | zero => intro _; rfl
    | succ p ih =>
      intro hp
      rw [peF_snoc, show 1 + p = p + 1 by omega, ← ih (by omega), cN_s]
      by_cases hk : (st.2.1 (st.2.2.1 t (sqX st t (p + 1))) 0) = 3
      · rw [if_pos hk, pz_t ((isk p (by omega)).2 hk), if_neg (by decide)]
        rfl
      · rw [if_neg hk, pz_f (fun z => hk ((isk p (by omega)).1 z)), if_pos rfl]
        show entW st t (O (cNn st t p)).toNat _ = _
        rw [(hO p (by omega)).1 hk, Int.toNat_natCast]
  have e2 : ∀ p, p ≤ (st.2.2.2.1 t) - 1 → oeF st t O X (cNn st t ((st.2.2.2.1 t) - 1) + cHh st t p) = peF st t 1 p 1 (peF st t 0 ((st.2.2.2.1 t) - 1) 1 X) := by
    intro p
    induction p with
    | zero => intro _; exact e1 _ (Nat.le_refl _)
    | succ p ih =>
      intro hp
      rw [peF_snoc, show 1 + p = p + 1 by omega, ← ih (by omega), cH_s]
      by_cases hk : (st.2.1 (st.2.2.1 t (sqX st t (p + 1))) 0) = 3
      · rw [if_pos hk, pz_t ((isk p (by omega)).2 hk), if_pos rfl]
        show entW st t (O (cNn st t ((st.2.2.2.1 t) - 1) + cHh st t p)).toNat _ = _
        rw [(hO p (by omega)).2 hk, Int.toNat_natCast]
        rfl
      · rw [if_neg hk, pz_f (fun z => hk ((isk p (by omega)).1 z)), if_neg (by decide)]
        rfl
  have e3 := e2 ((st.2.2.2.1 t) - 1) (Nat.le_refl _)
  rw [hnh] at e3
  exact e3
theorem oeF_len (X : List Int × Int) : ∀ i, (oeF st t O X i).1.length = X.1.length ∧ (oeF st t O X i).2 = X.2 + (sumN (fun j => bkn st t (O j).toNat) i : Nat) := by
  intro i
  induction i with
  | zero => exact ⟨rfl, by show X.2 = X.2 + ((0 : Nat) : Int); omega⟩
  | succ i ih =>
    refine ⟨(entW_len _ _ _ _).trans ih.1, ?_⟩
    show (oeF st t O X i).2 + (bkn st t (O i).toNat : Int) = X.2 + ((sumN (fun j => bkn st t (O j).toNat) i + bkn st t (O i).toNat : Nat) : Int)
    rw [ih.2]
    omega
/-- how many blocks, by the order -/
theorem bf_all (hT : TI st t) (hO : ordA st t O) : (bfF st t ((st.2.2.2.1 t) - 1) 1 2 ≠ -1 ↔ (∀ i, i + 1 < (st.2.2.2.1 t) → tel st t (O i).toNat) ∧ 2 + sumN (fun i => bkn st t (O i).toNat) ((st.2.2.2.1 t) - 1) ≤ 20) ∧ (bfF st t ((st.2.2.2.1 t) - 1) 1 2 ≠ -1 → bfF st t ((st.2.2.2.1 t) - 1) 1 2 = ((2 + sumN (fun i => bkn st t (O i).toNat) ((st.2.2.2.1 t) - 1) : Nat) : Int)) := by
  have hc := hT.c
  have hs := ord_sum hT hO (bkn st t)
  have e1 : sumN (bkn st t) 1 = bkn st t 0 := by show 0 + bkn st t 0 = _; omega
  have back : ∀ (n i x : Nat), (∀ j, i ≤ j → j < i + n → tel st t j) → x + (sumN (bkn st t) (i + n) - sumN (bkn st t) i) ≤ 20 → sumN (bkn st t) i ≤ sumN (bkn st t) (i + n) → bfF st t n i x ≠ -1 := by
    intro n
    induction n with
    | zero =>
      intro i x _ h2 _
      unfold bfF
      rw [if_pos (by simp at h2; omega)]
      omega
    | succ n ih =>
      intro i x h1 h2 h3
      have q : tel st t i := h1 i (by omega) (by omega)
      have e : bfF st t (n + 1) i x = bfF st t n (i + 1) (x + bkn st t i) := by
        rw [bfF]
        exact @if_pos _ (Classical.propDecidable _) q _ _ _
      rw [e]
      have e2 : sumN (bkn st t) (i + 1) = sumN (bkn st t) i + bkn st t i := rfl
      have mono : ∀ m, sumN (bkn st t) (i + 1) ≤ sumN (bkn st t) (i + 1 + m) := by
        intro m
        induction m with
        | zero => exact Nat.le_refl _
        | succ m ihm =>
          have : sumN (bkn st t) (i + 1 + (m + 1)) = sumN (bkn st t) (i + 1 + m) + bkn st t (i + 1 + m) := rfl
          omega
      have m1 := mono n
      rw [show i + (n + 1) = i + 1 + n by omega] at h2
      exact ih (i + 1) (x + bkn st t i) (fun j a b => h1 j (by omega) (by omega)) (by omega) m1
  have monoC : sumN (bkn st t) 1 ≤ sumN (bkn st t) ((st.2.2.2.1 t)) := by omega
  refine ⟨⟨fun h => ?_, fun h => ?_⟩, fun h => ?_⟩
  · obtain ⟨o1, o2, o3, o4⟩ := bfF_ok _ _ _ h
    rw [show 1 + ((st.2.2.2.1 t) - 1) = (st.2.2.2.1 t) by omega] at o1 o2 o4
    refine ⟨fun i hi => ?_, by omega⟩
    have := ord_r hT hO hi
    exact o1 _ (by omega) (by omega)
  · refine back _ _ _ (fun j a b => ?_) ?_ ?_
    · obtain ⟨k, h1, h2⟩ := ord_sur hT hO (i := j) (by omega) (by omega)
      have := h.1 k h1
      rw [h2, Int.toNat_natCast] at this
      exact this
    · rw [show 1 + ((st.2.2.2.1 t) - 1) = (st.2.2.2.1 t) by omega]
      omega
    · rw [show 1 + ((st.2.2.2.1 t) - 1) = (st.2.2.2.1 t) by omega]
      exact monoC
  · obtain ⟨o1, o2, o3, o4⟩ := bfF_ok _ _ _ h
    rw [show 1 + ((st.2.2.2.1 t) - 1) = (st.2.2.2.1 t) by omega] at o2
    rw [o2]
    omega
end Ord
