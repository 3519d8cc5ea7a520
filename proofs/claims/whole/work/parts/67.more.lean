/-! One node more: what it is, on both sides. -/
section Nx
variable {st ms X Y : CS} {u : Nat} {kd D z M O U : Int} {L Bd : List Int}
def NX (st X : CS) (u : Nat) (kd D z M O U : Int) (L Bd : List Int) : Prop := (X.2.2.2.1 u) = (st.2.2.2.1 u) + 1 ∧ (∀ i, i < (st.2.2.2.1 u) → (∀ k, k < 6 → (X.2.1 (X.2.2.1 u i) k) = (st.2.1 (st.2.2.1 u i) k)) ∧ (X.1 (2 * X.2.2.1 u i)) = (st.1 (2 * st.2.2.1 u i)) ∧ (X.1 (2 * X.2.2.1 u i + 1)) = (st.1 (2 * st.2.2.1 u i + 1))) ∧ ((X.2.1 (X.2.2.1 u ((st.2.2.2.1 u))) 0) = kd ∧ (X.2.1 (X.2.2.1 u ((st.2.2.2.1 u))) 1) = D ∧ (X.2.1 (X.2.2.1 u ((st.2.2.2.1 u))) 2) = z ∧ (X.2.1 (X.2.2.1 u ((st.2.2.2.1 u))) 3) = M ∧ (X.2.1 (X.2.2.1 u ((st.2.2.2.1 u))) 4) = O ∧ (X.2.1 (X.2.2.1 u ((st.2.2.2.1 u))) 5) = U) ∧ (X.1 (2 * X.2.2.1 u ((st.2.2.2.1 u)))) = L ∧ (X.1 (2 * X.2.2.1 u ((st.2.2.2.1 u)) + 1)) = Bd
theorem NX.vq (a : NX st X u kd D z M O U L Bd) (b : NX ms Y u kd D z M O U L Bd) (h : VQ st ms u) : VQ X Y u := by
  obtain ⟨a1, a2, a3, a4, a5⟩ := a
  obtain ⟨b1, b2, b3, b4, b5⟩ := b
  have e := h.1
  refine ⟨by omega, fun i hi => ?_⟩
  by_cases hc : i < (st.2.2.2.1 u)
  · have p := a2 i hc
    have q := b2 i (by omega)
    have r := h.2 i hc
    exact ⟨fun k hk => (q.1 k hk).trans ((r.1 k hk).trans (p.1 k hk).symm), q.2.1.trans (r.2.1.trans p.2.1.symm), q.2.2.trans (r.2.2.trans p.2.2.symm)⟩
  · obtain rfl : i = (st.2.2.2.1 u) := by omega
    rw [e] at b3 b4 b5
    refine ⟨fun k hk => ?_, b4.trans a4.symm, b5.trans a5.symm⟩
    rcases (by omega : k = 0 ∨ k = 1 ∨ k = 2 ∨ k = 3 ∨ k = 4 ∨ k = 5) with w | w | w | w | w | w <;> subst w
    · exact b3.1.trans a3.1.symm
    · exact b3.2.1.trans a3.2.1.symm
    · exact b3.2.2.1.trans a3.2.2.1.symm
    · exact b3.2.2.2.1.trans a3.2.2.2.1.symm
    · exact b3.2.2.2.2.1.trans a3.2.2.2.2.1.symm
    · exact b3.2.2.2.2.2.trans a3.2.2.2.2.2.symm
theorem TI.more (hT : TI st u) (hc : (st.2.2.2.1 u) < 30) (a : NX st X u kd D z M O U L Bd) (hkd : 0 ≤ kd ∧ kd ≤ 3) (hD : isK st u D 0) (hN : nmix L 0 L.length ∧ L.length ≤ 100 ∧ rowR8 L) (hU : ∀ i, 0 < i → i < (st.2.2.2.1 u) → (st.2.1 (st.2.2.1 u i) 1) = D → (st.1 (2 * st.2.2.1 u i)) = L → False) (hz : (kd = 3 → isK st u z 1) ∧ (kd ≠ 3 → z = -1)) (hB : (kd = 1 → Bd.length ≤ 2000) ∧ (kd = 2 → Bd.length ≤ 100) ∧ (kd ≠ 1 → kd ≠ 2 → Bd = [])) (hV : (0 ≤ M ∧ M ≤ 4095) ∧ (0 ≤ O ∧ O ≤ 2097151) ∧ 0 ≤ U ∧ U ≤ 2147483647) : TI X u := by
  obtain ⟨a1, a2, ⟨k0, k1, k2, k3, k4, k5⟩, a4, a5⟩ := a
  have c := hT.c
  obtain ⟨d0, d1, d2⟩ := hD
  have hk : ∀ i, i < (st.2.2.2.1 u) → ∀ k, k < 6 → (X.2.1 (X.2.2.1 u i) k) = (st.2.1 (st.2.2.1 u i) k) := fun i hi => (a2 i hi).1
  have hn : ∀ i, i < (st.2.2.2.1 u) → (X.1 (2 * X.2.2.1 u i)) = (st.1 (2 * st.2.2.1 u i)) := fun i hi => (a2 i hi).2.1
  have hb : ∀ i, i < (st.2.2.2.1 u) → (X.1 (2 * X.2.2.1 u i + 1)) = (st.1 (2 * st.2.2.1 u i + 1)) := fun i hi => (a2 i hi).2.2
  refine ⟨by omega, fun i h0 h1 => ?_, fun i h1 => ?_, fun i j i0 i1 j0 j1 e1 e2 => ?_, fun i h0 h1 => ?_, fun i h1 => ?_, fun i h1 => ?_, ?_, fun i h1 => ?_⟩
  · by_cases e : i < (st.2.2.2.1 u)
    · have q := hT.d i h0 e
      rw [hk i e 1 (by omega), hk _ (by omega) 0 (by omega)]
      exact q
    · obtain rfl : i = (st.2.2.2.1 u) := by omega
      rw [k1, hk _ (by omega) 0 (by omega)]
      exact ⟨d0, d1, d2⟩
  · by_cases e : i < (st.2.2.2.1 u)
    · rw [hk i e 0 (by omega)]
      exact hT.k i e
    · obtain rfl : i = (st.2.2.2.1 u) := by omega
      rw [k0]
      exact hkd
  · by_cases ei : i < (st.2.2.2.1 u)
    · by_cases ej : j < (st.2.2.2.1 u)
      · rw [hk i ei 1 (by omega), hk j ej 1 (by omega)] at e1
        rw [hn i ei, hn j ej] at e2
        exact hT.u i j i0 ei j0 ej e1 e2
      · obtain rfl : j = (st.2.2.2.1 u) := by omega
        rw [k1, hk i ei 1 (by omega)] at e1
        rw [a4, hn i ei] at e2
        exact (hU i i0 ei e1 e2).elim
    · obtain rfl : i = (st.2.2.2.1 u) := by omega
      by_cases ej : j < (st.2.2.2.1 u)
      · rw [k1, hk j ej 1 (by omega)] at e1
        rw [a4, hn j ej] at e2
        exact (hU j j0 ej e1.symm e2.symm).elim
      · omega
  · by_cases e : i < (st.2.2.2.1 u)
    · rw [hn i e]
      exact hT.n i h0 e
    · obtain rfl : i = (st.2.2.2.1 u) := by omega
      rw [a4]
      exact hN
  · by_cases e : i < (st.2.2.2.1 u)
    · have q := hT.f i e
      rw [hk i e 0 (by omega), hk i e 2 (by omega)]
      refine ⟨fun w => ?_, q.2⟩
      have q3 := q.1 w
      rw [hk _ (by omega) 0 (by omega)]
      exact q3
    · obtain rfl : i = (st.2.2.2.1 u) := by omega
      rw [k0, k2]
      refine ⟨fun w => ?_, hz.2⟩
      obtain ⟨z0, z1, z2⟩ := hz.1 w
      rw [hk _ (by omega) 0 (by omega)]
      exact ⟨z0, z1, z2⟩
  · by_cases e : i < (st.2.2.2.1 u)
    · rw [hk i e 0 (by omega), hb i e]
      exact hT.b i e
    · obtain rfl : i = (st.2.2.2.1 u) := by omega
      rw [k0, a5]
      exact hB
  · have q := hT.r
    unfold tiR
    rw [hk 0 (by omega) 0 (by omega), hk 0 (by omega) 1 (by omega), hn 0 (by omega)]
    exact q
  · by_cases e : i < (st.2.2.2.1 u)
    · rw [hk i e 3 (by omega), hk i e 4 (by omega), hk i e 5 (by omega)]
      exact hT.v i e
    · obtain rfl : i = (st.2.2.2.1 u) := by omega
      rw [k3, k4, k5]
      exact ⟨hV.1.1, hV.1.2, hV.2.1.1, hV.2.1.2, hV.2.2.1, hV.2.2.2⟩
theorem nx_frJ (hinj : ∀ i j, i < 30 → j < 30 → st.2.2.1 u i = st.2.2.1 u j → i = j) (hc : (st.2.2.2.1 u) < 30) (f : frJ st X u (st.2.2.1 u ((st.2.2.2.1 u)))) (hC : (X.2.2.2.1 u) = (st.2.2.2.1 u) + 1) (k0 : X.2.1 (st.2.2.1 u ((st.2.2.2.1 u))) 0 = kd) (k1 : X.2.1 (st.2.2.1 u ((st.2.2.2.1 u))) 1 = D) (k2 : X.2.1 (st.2.2.1 u ((st.2.2.2.1 u))) 2 = z) (k3 : X.2.1 (st.2.2.1 u ((st.2.2.2.1 u))) 3 = M) (k4 : X.2.1 (st.2.2.1 u ((st.2.2.2.1 u))) 4 = O) (k5 : X.2.1 (st.2.2.1 u ((st.2.2.2.1 u))) 5 = U) (hL : X.1 (2 * st.2.2.1 u ((st.2.2.2.1 u))) = L) (hB : X.1 (2 * st.2.2.1 u ((st.2.2.2.1 u)) + 1) = Bd) : NX st X u kd D z M O U L Bd := by
  obtain ⟨f1, f2, f3, f4, f5⟩ := f
  refine ⟨hC, fun i hi => ?_, ?_, ?_, ?_⟩
  · have ne : st.2.2.1 u i ≠ st.2.2.1 u ((st.2.2.2.1 u)) := fun q => absurd (hinj i ((st.2.2.2.1 u)) (by omega) hc q) (by omega)
    rw [f1]
    exact ⟨fun k _ => by rw [f2 _ ne], f3 _ (by omega) (by omega), f3 _ (by omega) (by omega)⟩
  · rw [f1]
    exact ⟨k0, k1, k2, k3, k4, k5⟩
  · rw [f1]; exact hL
  · rw [f1]; exact hB
theorem nx_trAl (hinj : ∀ i j, i < 30 → j < 30 → st.2.2.1 u i = st.2.2.1 u j → i = j) (hc : (st.2.2.2.1 u) < 30) (L : List Int) (D k z : Int) : NX st (trAl st u L D k z) u k D z 0 0 0 L [] := by
  refine nx_frJ hinj hc ⟨rfl, fun n hn => ?_, fun r h1 h2 => ?_, fun t ht => ?_, rfl⟩ ?_ ?_ ?_ ?_ ?_ ?_ ?_ ?_ ?_
  · simp [trAl, bgn, uN, uR, uC, va_up, hn]
  · simp [trAl, bgn, uN, uR, uC, va_up, h1, h2]
  · simp [trAl, bgn, uN, uR, uC, va_up, ht]
  all_goals simp [trAl, bgn, uN, uR, uC, va_up]
theorem nx_tkS (hinj : ∀ i j, i < 30 → j < 30 → st.2.2.1 u i = st.2.2.1 u j → i = j) (hc : (st.2.2.2.1 u) < 30) (L B : List Int) (D k z M O U : Int) : NX st (tkS st u L B D k z M O U) u k D z M O U L (if k = 1 ∨ k = 2 then B else []) := by
  by_cases hk : k = 1 ∨ k = 2
  · rw [if_pos hk]
    refine nx_frJ hinj hc (frJ_tkS L B D k z M O U) (tkS_C L B D k z M O U) ?_ ?_ ?_ ?_ ?_ ?_ ?_ ?_
    all_goals rw [show tkS st u L B D k z M O U = uR (tkN st u L D k z M O U) (2 * st.2.2.1 u ((st.2.2.2.1 u)) + 1) B from if_pos hk]
    all_goals simp [tkN, trAl, bgn, uN, uR, uC, va_up]
  · rw [if_neg hk]
    refine nx_frJ hinj hc (frJ_tkS L B D k z M O U) (tkS_C L B D k z M O U) ?_ ?_ ?_ ?_ ?_ ?_ ?_ ?_
    all_goals rw [show tkS st u L B D k z M O U = tkN st u L D k z M O U from if_neg hk]
    all_goals simp [tkN, trAl, bgn, uN, uR, uC, va_up]
end Nx
/-! The reference: all but one node stays. -/
section Fr
variable {s s' : MS} {K : Nat}
def FR (s s' : MS) (K : Nat) : Prop := (∀ k, 1 ≤ k → k ≤ 8 → ∀ x, x ≠ K → s'.1 k x = s.1 k x) ∧ (∀ x, x < 100 * K ∨ 100 * K + 100 ≤ x → s'.1 10 x = s.1 10 x) ∧ (∀ x, x < 2000 * K ∨ 2000 * K + 2000 ≤ x → s'.1 11 x = s.1 11 x)
theorem FR.nm (f : FR s s' K) (hM : MOK s) {n : Nat} (hn : n < 60) (hK : n ≠ K) : nmM s' n = nmM s n := by
  have hm := hM.1 n hn
  unfold nmM
  rw [f.1 3 (by omega) (by omega) n hK]
  exact oF_ext fun j hj => f.2.1 _ (by omega)
theorem FR.bd (f : FR s s' K) (hM : MOK s) {n : Nat} (hn : n < 60) (hK : n ≠ K) : bdM s' n = bdM s n := by
  have hm := hM.1 n hn
  unfold bdM
  rw [f.1 7 (by omega) (by omega) n hK]
  exact oF_ext fun j hj => f.2.2 _ (by omega)
theorem FR.fd (f : FR s s' K) {n k : Nat} (hk : k < 6) (hK : n ≠ K) : (mst s').2.1 n k = (mst s).2.1 n k := by
  rcases (by omega : k = 0 ∨ k = 1 ∨ k = 2 ∨ k = 3 ∨ k = 4 ∨ k = 5) with z | z | z | z | z | z <;> subst z
  · exact f.1 1 (by omega) (by omega) n hK
  · exact f.1 2 (by omega) (by omega) n hK
  · exact f.1 8 (by omega) (by omega) n hK
  · exact f.1 4 (by omega) (by omega) n hK
  · exact f.1 5 (by omega) (by omega) n hK
  · exact f.1 6 (by omega) (by omega) n hK
theorem FR.nd (f : FR s s' K) (hM : MOK s) {t i : Nat} (ht : t < 2) (hi : i < 30) (hK : 30 * t + i ≠ K) : (∀ k, k < 6 → ((mst s').2.1 ((mst s').2.2.1 t i) k) = ((mst s).2.1 ((mst s).2.2.1 t i) k)) ∧ ((mst s').1 (2 * (mst s').2.2.1 t i)) = ((mst s).1 (2 * (mst s).2.2.1 t i)) ∧ ((mst s').1 (2 * (mst s').2.2.1 t i + 1)) = ((mst s).1 (2 * (mst s).2.2.1 t i + 1)) := by
  refine ⟨fun k hk => f.fd hk hK, ?_, ?_⟩
  · rw [mst_nm s' ht hi, mst_nm s ht hi, f.nm hM (by omega) hK]
  · rw [mst_bd s' ht hi, mst_bd s ht hi, f.bd hM (by omega) hK]
theorem FR.nx (f : FR s s' K) (hM : MOK s) {u : Nat} (hu : u < 2) (hK : K = 30 * u + (s.1 9 u).toNat) (hc : s.1 9 u < 30) (h9 : s'.1 9 u = s.1 9 u + 1) : NX (mst s) (mst s') u (s'.1 1 K) (s'.1 2 K) (s'.1 8 K) (s'.1 4 K) (s'.1 5 K) (s'.1 6 K) (nmM s' K) (bdM s' K) := by
  have hcn := hM.2.1 u hu
  subst hK
  refine ⟨?_, fun i hi => ?_, ⟨rfl, rfl, rfl, rfl, rfl, rfl⟩, mst_nm s' hu (by show (s.1 9 u).toNat < 30; omega), mst_bd s' hu (by show (s.1 9 u).toNat < 30; omega)⟩
  · show (s'.1 9 u).toNat = (s.1 9 u).toNat + 1
    rw [h9]
    omega
  · have hi2 : i < (s.1 9 u).toNat := hi
    exact f.nd hM hu (by omega) (by omega)
theorem FR.other (f : FR s s' K) (hM : MOK s) {t : Nat} (ht : t < 2) (hK : K < 30 * t ∨ 30 * t + 30 ≤ K) (h9 : s'.1 9 t = s.1 9 t) : VQ (mst s) (mst s') t := by
  have hcn := hM.2.1 t ht
  refine ⟨by show (s'.1 9 t).toNat = (s.1 9 t).toNat; rw [h9], fun i hi => ?_⟩
  have hi2 : i < (s.1 9 t).toNat := hi
  exact f.nd hM ht (by omega) (by omega)
end Fr
