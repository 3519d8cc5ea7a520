/-! Two states whose trees look alike. -/
noncomputable def chl (st : CS) (t : Nat) (l : List Int) (dir f e : Int) : Int := ffst (fun i => (st.2.1 (st.2.2.1 t i) 1) = dir ∧ sli ((st.1 (2 * st.2.2.1 t i))) l f e) ((st.2.2.2.1 t) - 1) 1
noncomputable def lkl (st : CS) (t : Nat) (l : List Int) (e : Int) : Nat → Int → Int → Int → Int
  | 0, _, a, _ => a
  | n + 1, i, a, f => if a = -1 then a else if i = e ∨ rat l i = 47 then lkl st t l e n (i + 1) (chl st t l a f i) (i + 1) else lkl st t l e n (i + 1) a f
theorem chn_l (st : CS) (t r : Nat) (dir f e : Int) : chn st t r dir f e = chl st t (st.1 r) dir f e := rfl
theorem lkF_l (st : CS) (t r : Nat) (e : Int) : ∀ (n : Nat) (i a f : Int), lkF st t r e n i a f = lkl st t (st.1 r) e n i a f := by
  intro n
  induction n with
  | zero => intro i a f; rfl
  | succ n ih =>
    intro i a f
    unfold lkF lkl
    rw [ih, ih, chn_l]
def VQ (st ms : CS) (t : Nat) : Prop := (ms.2.2.2.1 t) = (st.2.2.2.1 t) ∧ ∀ i, i < (st.2.2.2.1 t) → (∀ k, k < 6 → (ms.2.1 (ms.2.2.1 t i) k) = (st.2.1 (st.2.2.1 t i) k)) ∧ (ms.1 (2 * ms.2.2.1 t i)) = (st.1 (2 * st.2.2.1 t i)) ∧ (ms.1 (2 * ms.2.2.1 t i + 1)) = (st.1 (2 * st.2.2.1 t i + 1))
section Vq
variable {st ms : CS} {t : Nat}
theorem VQ.rfl' (st : CS) (t : Nat) : VQ st st t := ⟨rfl, fun _ _ => ⟨fun _ _ => rfl, rfl, rfl⟩⟩
theorem VQ.sym (h : VQ st ms t) : VQ ms st t := ⟨h.1.symm, fun i hi => ⟨fun k hk => ((h.2 i (by rw [← h.1]; exact hi)).1 k hk).symm, (h.2 i (by rw [← h.1]; exact hi)).2.1.symm, (h.2 i (by rw [← h.1]; exact hi)).2.2.symm⟩⟩
theorem VQ.tr {us : CS} (h : VQ st ms t) (h' : VQ ms us t) : VQ st us t := ⟨h'.1.trans h.1, fun i hi => by
  obtain ⟨a1, a2, a3⟩ := h.2 i hi
  obtain ⟨b1, b2, b3⟩ := h'.2 i (by rw [h.1]; exact hi)
  exact ⟨fun k hk => (b1 k hk).trans (a1 k hk), b2.trans a2, b3.trans a3⟩⟩
theorem VQ.qisK (h : VQ st ms t) (i k : Int) : isK ms t i k ↔ isK st t i k := by
  have e := h.1
  unfold isK
  constructor
  · intro ⟨q1, q2, q3⟩
    exact ⟨q1, by omega, by rw [← (h.2 i.toNat (by omega)).1 0 (by omega)]; exact q3⟩
  · intro ⟨q1, q2, q3⟩
    exact ⟨q1, by omega, by rw [(h.2 i.toNat (by omega)).1 0 (by omega)]; exact q3⟩
theorem VQ.qhs (h : VQ st ms t) (i : Int) : hs ms t i ↔ hs st t i := by
  unfold hs
  rw [h.1]
theorem ffst_congr {p q : Nat → Prop} : ∀ (n i : Nat), (∀ j, i ≤ j → j < i + n → (p j ↔ q j)) → ffst p n i = ffst q n i := by
  intro n
  induction n with
  | zero => intro i _; rfl
  | succ n ih =>
    intro i h
    have h1 := h i (by omega) (by omega)
    have h2 := ih (i + 1) (fun j a b => h j (by omega) (by omega))
    by_cases hp : p i
    · rw [ffst_t hp, ffst_t (h1.1 hp)]
    · rw [ffst_f hp, ffst_f (fun q => hp (h1.2 q)), h2]
theorem VQ.qchl (h : VQ st ms t) (hc : 1 ≤ (st.2.2.2.1 t)) (l : List Int) (dir f e : Int) : chl ms t l dir f e = chl st t l dir f e := by
  unfold chl
  rw [h.1]
  refine ffst_congr _ _ fun j h1 h2 => ?_
  obtain ⟨a1, a2, a3⟩ := h.2 j (by omega)
  rw [a1 1 (by omega), a2]
theorem VQ.qlkl (h : VQ st ms t) (hc : 1 ≤ (st.2.2.2.1 t)) (l : List Int) (e : Int) : ∀ (n : Nat) (i a f : Int), lkl ms t l e n i a f = lkl st t l e n i a f := by
  intro n
  induction n with
  | zero => intro i a f; rfl
  | succ n ih =>
    intro i a f
    unfold lkl
    rw [ih, ih, h.qchl hc]
theorem VQ.qcbh (h : VQ st ms t) (i o : Int) : cbh ms t i o ↔ cbh st t i o := by
  have e := h.1
  have f : ∀ j, hs st t j → (ms.1 (2 * ms.2.2.1 t j.toNat)) = (st.1 (2 * st.2.2.1 t j.toNat)) := fun j q => (h.2 j.toNat (by unfold hs at q; omega)).2.1
  unfold cbh
  rw [h.qhs, h.qhs]
  by_cases ho : hs st t o
  · by_cases hi : hs st t i
    · rw [f o ho, f i hi]
    · simp [ho, hi]
  · simp [ho]
theorem VQ.qnxF (h : VQ st ms t) (d b : Int) : ∀ (n i : Nat) (x : Int), i + n ≤ (st.2.2.2.1 t) → nxF ms t d b n i x = nxF st t d b n i x := by
  intro n
  induction n with
  | zero => intro i x _; rfl
  | succ n ih =>
    intro i x hi
    unfold nxF
    rw [ih _ _ (by omega), ih _ _ (by omega), (h.2 i (by omega)).1 1 (by omega), propext (h.qcbh i b), propext (h.qcbh x i)]
theorem VQ.qnxt (h : VQ st ms t) (hc : 1 ≤ (st.2.2.2.1 t)) (d b : Int) : nxt ms t d b = nxt st t d b := by
  unfold nxt
  rw [h.1]
  exact h.qnxF d b _ _ _ (by omega)
theorem VQ.qfwF (h : VQ st ms t) (hc : 1 ≤ (st.2.2.2.1 t)) : ∀ (n : Nat) (x a : Int), fwF ms t n x a = fwF st t n x a := by
  intro n
  induction n with
  | zero => intro x a; rfl
  | succ n ih =>
    intro x a
    unfold fwF
    rw [h.1]
    by_cases hp : x = -1 ∧ 0 < a ∧ a < (st.2.2.2.1 t)
    · rw [if_pos hp, if_pos hp, (h.2 a.toNat (by omega)).1 1 (by omega), ih, h.qnxt hc]
    · rw [if_neg hp, if_neg hp]
theorem VQ.qfol (h : VQ st ms t) (hc : 1 ≤ (st.2.2.2.1 t)) (i : Int) : fol ms t i = fol st t i := by
  unfold fol
  rw [h.qfwF hc, h.qnxt hc]
theorem VQ.qsqX (h : VQ st ms t) (hc : 1 ≤ (st.2.2.2.1 t)) (k : Nat) : sqX ms t k = sqX st t k := by
  unfold sqX
  rw [show (fun v : Nat => fol ms t v) = (fun v : Nat => fol st t v) from funext fun v => h.qfol hc v]
theorem VQ.qupl (h : VQ st ms t) : ∀ (n : Nat) (a : Int), upl ms t n a = upl st t n a := by
  intro n
  induction n with
  | zero => intro a; rfl
  | succ n ih =>
    intro a
    unfold upl
    rw [h.1]
    by_cases hp : 0 < a ∧ a < (st.2.2.2.1 t)
    · rw [if_pos hp, if_pos hp, (h.2 a.toNat (by omega)).1 1 (by omega), (h.2 a.toNat (by omega)).2.1, ih]
    · rw [if_neg hp, if_neg hp]
theorem VQ.qpth (h : VQ st ms t) (i : Int) : pth ms t i = pth st t i := by
  unfold pth
  rw [h.qupl, propext (h.qisK i 0)]
theorem VQ.qpln (h : VQ st ms t) (i : Int) : pln ms t i = pln st t i := by
  rw [pln_pth, pln_pth, h.qpth]
theorem VQ.qlgF (h : VQ st ms t) : ∀ (n i : Nat) (x : Int), lgF ms t n i x = lgF st t n i x := by
  intro n
  induction n with
  | zero => intro i x; rfl
  | succ n ih =>
    intro i x
    unfold lgF
    rw [ih, h.qpln]
theorem VQ.ti (h : VQ st ms t) (hT : TI st t) : TI ms t := by
  have e := h.1
  have hk : ∀ i, i < (st.2.2.2.1 t) → ∀ k, k < 6 → (ms.2.1 (ms.2.2.1 t i) k) = (st.2.1 (st.2.2.1 t i) k) := fun i hi => (h.2 i hi).1
  have hn : ∀ i, i < (st.2.2.2.1 t) → (ms.1 (2 * ms.2.2.1 t i)) = (st.1 (2 * st.2.2.1 t i)) := fun i hi => (h.2 i hi).2.1
  have hb : ∀ i, i < (st.2.2.2.1 t) → (ms.1 (2 * ms.2.2.1 t i + 1)) = (st.1 (2 * st.2.2.1 t i + 1)) := fun i hi => (h.2 i hi).2.2
  have c := hT.c
  refine ⟨by omega, fun i h0 h1 => ?_, fun i h1 => ?_, fun i j i0 i1 j0 j1 e1 e2 => ?_, fun i h0 h1 => ?_, fun i h1 => ?_, fun i h1 => ?_, ?_, fun i h1 => ?_⟩
  · have q := hT.d i h0 (by omega)
    rw [hk i (by omega) 1 (by omega), hk _ (by omega) 0 (by omega)]
    exact q
  · rw [hk i (by omega) 0 (by omega)]
    exact hT.k i (by omega)
  · rw [hk i (by omega) 1 (by omega), hk j (by omega) 1 (by omega)] at e1
    rw [hn i (by omega), hn j (by omega)] at e2
    exact hT.u i j i0 (by omega) j0 (by omega) e1 e2
  · rw [hn i (by omega)]
    exact hT.n i h0 (by omega)
  · have q := hT.f i (by omega)
    rw [hk i (by omega) 0 (by omega), hk i (by omega) 2 (by omega)]
    refine ⟨fun w => ?_, q.2⟩
    have q3 := q.1 w
    rw [hk _ (by omega) 0 (by omega)]
    exact q3
  · rw [hk i (by omega) 0 (by omega), hb i (by omega)]
    exact hT.b i (by omega)
  · have q := hT.r
    unfold tiR
    rw [hk 0 (by omega) 0 (by omega), hk 0 (by omega) 1 (by omega), hn 0 (by omega)]
    exact q
  · rw [hk i (by omega) 3 (by omega), hk i (by omega) 4 (by omega), hk i (by omega) 5 (by omega)]
    exact hT.v i (by omega)
end Vq
