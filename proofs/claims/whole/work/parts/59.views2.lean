/-! Two trees that look alike are written alike, and read into alike. -/
section Vq2
variable {st ms : CS} {t : Nat}
theorem VQ.qtel (h : VQ st ms t) {i : Nat} (hi : i < (st.2.2.2.1 t)) : tel ms t i ↔ tel st t i := by
  unfold tel
  rw [h.qpln, h.qpth, (h.2 i hi).1 2 (by omega), h.qpln]
theorem VQ.qcln (h : VQ st ms t) {i : Nat} (hi : i < (st.2.2.2.1 t)) : cln ms t i = cln st t i := by
  unfold cln
  rw [(h.2 i hi).1 0 (by omega), (h.2 i hi).2.2]
theorem VQ.qbkn (h : VQ st ms t) {i : Nat} (hi : i < (st.2.2.2.1 t)) : bkn ms t i = bkn st t i := by
  unfold bkn
  rw [h.qcln hi]
theorem VQ.qbfF (h : VQ st ms t) : ∀ (n i x : Nat), i + n ≤ (st.2.2.2.1 t) → bfF ms t n i x = bfF st t n i x := by
  intro n
  induction n with
  | zero => intro i x _; rfl
  | succ n ih =>
    intro i x hi
    unfold bfF
    rw [propext (h.qtel (i := i) (by omega)), h.qbkn (by omega), ih _ _ (by omega)]
theorem VQ.qhdr (h : VQ st ms t) {i : Nat} (hi : i < (st.2.2.2.1 t)) (l : List Int) (b : Int) : hdrL ms t i l b = hdrL st t i l b := by
  have k := (h.2 i hi).1
  unfold hdrL hd3 hd2 hd1
  rw [k 0 (by omega), k 2 (by omega), k 3 (by omega), k 4 (by omega), k 5 (by omega), h.qpth, h.qpth, h.qcln hi, (h.2 i hi).2.2]
theorem VQ.qent (h : VQ st ms t) {i : Nat} (hi : i < (st.2.2.2.1 t)) (X : List Int × Int) : entW ms t i X = entW st t i X := by
  unfold entW
  rw [h.qhdr hi, (h.2 i hi).1 0 (by omega), (h.2 i hi).2.2, h.qbkn hi]
theorem VQ.qpeF (h : VQ st ms t) (hT : TI st t) (hard : Int) : ∀ (n k : Nat) (X : List Int × Int), k + n ≤ (st.2.2.2.1 t) → peF ms t hard n k X = peF st t hard n k X := by
  intro n
  induction n with
  | zero => intro k X _; rfl
  | succ n ih =>
    intro k X hk
    unfold peF
    rw [h.qsqX hT.c.1, propext (h.qisK (sqX st t k) 3), h.qent (hT.seq.1 k (by omega)).1, ih _ _ (by omega)]
theorem VQ.qwrT (h : VQ st ms t) (hT : TI st t) (b : Int) : wrT ms t b = wrT st t b := by
  have hc := hT.c
  unfold wrT
  rw [h.1, h.qpeF hT _ _ _ _ (by omega), h.qpeF hT _ _ _ _ (by omega)]
theorem VQ.qcN (h : VQ st ms t) (hT : TI st t) : ∀ p : Nat, p + 1 ≤ (st.2.2.2.1 t) → cNn ms t p = cNn st t p ∧ cHh ms t p = cHh st t p := by
  intro p
  induction p with
  | zero => intro _; exact ⟨rfl, rfl⟩
  | succ p ih =>
    intro hp
    obtain ⟨h1, h2⟩ := ih (by omega)
    have hs := (hT.seq.1 (p + 1) (by omega)).1
    rw [cN_s, cN_s, cH_s, cH_s, h1, h2, h.qsqX hT.c.1, (h.2 _ hs).1 0 (by omega)]
    exact ⟨rfl, rfl⟩
theorem VQ.qordA (h : VQ st ms t) (hT : TI st t) {O : Nat → Int} (hO : ordA st t O) : ordA ms t O := by
  have hc := hT.c
  intro j hj
  rw [h.1] at hj ⊢
  have hs := (hT.seq.1 (j + 1) hj).1
  rw [h.qsqX hT.c.1, (h.2 _ hs).1 0 (by omega), (h.qcN hT j (by omega)).1, (h.qcN hT ((st.2.2.2.1 t) - 1) (by omega)).1, (h.qcN hT j (by omega)).2]
  exact hO j hj
end Vq2
section MstVq
variable {s s' : MS} {t : Nat}
theorem mst_vq (ht : t < 2) (hM : MOK s) (h : ∀ k, 1 ≤ k → k ≤ 11 → s'.1 k = s.1 k) : VQ (mst s) (mst s') t := by
  have hcn := hM.2.1 t ht
  refine ⟨by show (s'.1 9 t).toNat = (s.1 9 t).toNat; rw [h 9 (by omega) (by omega)], fun i hi => ?_⟩
  have hi30 : i < 30 := by
    have : ((mst s).2.2.2.1 t) = (s.1 9 t).toNat := rfl
    omega
  refine ⟨fun k hk => ?_, ?_, ?_⟩
  · rcases (by omega : k = 0 ∨ k = 1 ∨ k = 2 ∨ k = 3 ∨ k = 4 ∨ k = 5) with q | q | q | q | q | q <;> subst q
    · exact congrFun (h 1 (by omega) (by omega)) _
    · exact congrFun (h 2 (by omega) (by omega)) _
    · exact congrFun (h 8 (by omega) (by omega)) _
    · exact congrFun (h 4 (by omega) (by omega)) _
    · exact congrFun (h 5 (by omega) (by omega)) _
    · exact congrFun (h 6 (by omega) (by omega)) _
  · rw [mst_nm s' ht hi30, mst_nm s ht hi30]
    unfold nmM
    rw [h 3 (by omega) (by omega), h 10 (by omega) (by omega)]
  · rw [mst_bd s' ht hi30, mst_bd s ht hi30]
    unfold bdM
    rw [h 7 (by omega) (by omega), h 11 (by omega) (by omega)]
end MstVq
