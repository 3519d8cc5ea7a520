/-! Each call does the same to two states that look alike. -/
def inJ (st : CS) (t : Nat) : Prop := (∀ i j, i < 30 → j < 30 → st.2.2.1 t i = st.2.2.1 t j → i = j) ∧ ∀ i, i < 30 → st.2.2.1 t i < 60
def PR (st ms : CS) (t : Nat) : Prop := SE st ms t ∧ TI st t ∧ inJ st t ∧ inJ ms t
/-- one node is another -/
def CH1 (st X : CS) (t i0 : Nat) (f : Nat → Int) (L Bd : List Int) : Prop := (X.2.2.2.1 t) = (st.2.2.2.1 t) ∧ (∀ i, i < (st.2.2.2.1 t) → i ≠ i0 → (∀ k, k < 6 → (X.2.1 (X.2.2.1 t i) k) = (st.2.1 (st.2.2.1 t i) k)) ∧ (X.1 (2 * X.2.2.1 t i)) = (st.1 (2 * st.2.2.1 t i)) ∧ (X.1 (2 * X.2.2.1 t i + 1)) = (st.1 (2 * st.2.2.1 t i + 1))) ∧ (∀ k, k < 6 → (X.2.1 (X.2.2.1 t i0) k) = f k) ∧ (X.1 (2 * X.2.2.1 t i0)) = L ∧ (X.1 (2 * X.2.2.1 t i0 + 1)) = Bd
section Pr
variable {st ms X Y st' ms' : CS} {t i0 : Nat} {f f' : Nat → Int} {L Bd L' Bd' : List Int} {c c' : Int}
theorem SE.sym (h : SE st ms t) : SE ms st t := ⟨h.1.sym, h.2.1.symm, h.2.2.1.symm, h.2.2.2.symm⟩
theorem CH1.vq (a : CH1 st X t i0 f L Bd) (b : CH1 ms Y t i0 f' L' Bd') (h : VQ st ms t) (hf : ∀ k, k < 6 → f' k = f k) (hL : L' = L) (hB : Bd' = Bd) : VQ X Y t := by
  obtain ⟨a1, a2, a3, a4, a5⟩ := a
  obtain ⟨b1, b2, b3, b4, b5⟩ := b
  have e := h.1
  refine ⟨by omega, fun i hi => ?_⟩
  by_cases hc : i = i0
  · subst hc
    exact ⟨fun k hk => (b3 k hk).trans ((hf k hk).trans (a3 k hk).symm), b4.trans (hL.trans a4.symm), b5.trans (hB.trans a5.symm)⟩
  · have p := a2 i (by omega) hc
    have q := b2 i (by omega) hc
    have r := h.2 i (by omega)
    exact ⟨fun k hk => (q.1 k hk).trans ((r.1 k hk).trans (p.1 k hk).symm), q.2.1.trans (r.2.1.trans p.2.1.symm), q.2.2.trans (r.2.2.trans p.2.2.symm)⟩
theorem CH1.ti (a : CH1 st X t i0 f L Bd) (hT : TI st t) (h0 : f 0 = (st.2.1 (st.2.2.1 t i0) 0)) (h1 : f 1 = (st.2.1 (st.2.2.1 t i0) 1)) (h2 : f 2 = (st.2.1 (st.2.2.1 t i0) 2)) (hN : i0 ≠ 0 → nmix L 0 L.length ∧ L.length ≤ 100 ∧ rowR8 L) (hR : i0 = 0 → L = []) (hU : ∀ j, 0 < j → j < (st.2.2.2.1 t) → j ≠ i0 → (st.2.1 (st.2.2.1 t j) 1) = (st.2.1 (st.2.2.1 t i0) 1) → (st.1 (2 * st.2.2.1 t j)) = L → False) (hB : (f 0 = 1 → Bd.length ≤ 2000) ∧ (f 0 = 2 → Bd.length ≤ 100) ∧ (f 0 ≠ 1 → f 0 ≠ 2 → Bd = [])) (hV : (0 ≤ f 3 ∧ f 3 ≤ 4095) ∧ (0 ≤ f 4 ∧ f 4 ≤ 2097151) ∧ 0 ≤ f 5 ∧ f 5 ≤ 2147483647) : TI X t := by
  obtain ⟨a1, a2, a3, a4, a5⟩ := a
  have hk : ∀ i, i < (st.2.2.2.1 t) → ∀ k, k < 3 → (X.2.1 (X.2.2.1 t i) k) = (st.2.1 (st.2.2.1 t i) k) := fun i hi k hk => by
    by_cases e : i = i0
    · subst e
      rw [a3 k (by omega)]
      rcases (by omega : k = 0 ∨ k = 1 ∨ k = 2) with w | w | w <;> subst w
      · exact h0
      · exact h1
      · exact h2
    · exact (a2 i hi e).1 k (by omega)
  refine ⟨by rw [a1]; exact hT.c, fun i i0' i1 => ?_, fun i i1 => ?_, fun i j i0' i1 j0 j1 e1 e2 => ?_, fun i i0' i1 => ?_, fun i i1 => ?_, fun i i1 => ?_, ?_, fun i i1 => ?_⟩
  · rw [a1] at i1
    have q := hT.d i i0' i1
    rw [hk i i1 1 (by omega), hk _ (by omega) 0 (by omega)]
    exact q
  · rw [a1] at i1
    rw [hk i i1 0 (by omega)]
    exact hT.k i i1
  · rw [a1] at i1 j1
    rw [hk i i1 1 (by omega), hk j j1 1 (by omega)] at e1
    by_cases ei : i = i0
    · by_cases ej : j = i0
      · omega
      · rw [ei, a4, (a2 j j1 ej).2.1] at e2
        rw [ei] at e1
        exact (hU j j0 j1 ej e1.symm e2.symm).elim
    · by_cases ej : j = i0
      · rw [ej, a4, (a2 i i1 ei).2.1] at e2
        rw [ej] at e1
        exact (hU i i0' i1 ei e1 e2).elim
      · rw [(a2 i i1 ei).2.1, (a2 j j1 ej).2.1] at e2
        exact hT.u i j i0' i1 j0 j1 e1 e2
  · rw [a1] at i1
    by_cases ei : i = i0
    · rw [ei, a4]
      exact hN (by omega)
    · rw [(a2 i i1 ei).2.1]
      exact hT.n i i0' i1
  · rw [a1] at i1
    have q := hT.f i i1
    rw [hk i i1 0 (by omega), hk i i1 2 (by omega)]
    refine ⟨fun z => ?_, q.2⟩
    have z2 := q.1 z
    rw [hk _ (by omega) 0 (by omega)]
    exact z2
  · rw [a1] at i1
    by_cases ei : i = i0
    · rw [ei, a3 0 (by omega), a5]
      exact hB
    · rw [(a2 i i1 ei).1 0 (by omega), (a2 i i1 ei).2.2]
      exact hT.b i i1
  · have q := hT.r
    have c := hT.c
    by_cases ei : i0 = 0
    · refine ⟨(hk 0 (by omega) 0 (by omega)).trans q.1, (hk 0 (by omega) 1 (by omega)).trans q.2.1, ?_⟩
      rw [ei] at a4
      rw [a4]
      exact hR ei
    · refine ⟨(hk 0 (by omega) 0 (by omega)).trans q.1, (hk 0 (by omega) 1 (by omega)).trans q.2.1, ?_⟩
      rw [(a2 0 (by omega) (by omega)).2.1]
      exact q.2.2
  · rw [a1] at i1
    by_cases ei : i = i0
    · rw [ei, a3 3 (by omega), a3 4 (by omega), a3 5 (by omega)]
      exact ⟨hV.1.1, hV.1.2, hV.2.1.1, hV.2.1.2, hV.2.2.1, hV.2.2.2⟩
    · have q := (a2 i i1 ei).1
      rw [q 3 (by omega), q 4 (by omega), q 5 (by omega)]
      exact hT.v i i1
theorem ch_row0 (hJ : inJ st t) (hc : (st.2.2.2.1 t) ≤ 30) (hi : i0 < (st.2.2.2.1 t)) (L : List Int) : CH1 st (uR st (2 * st.2.2.1 t i0) L) t i0 (fun k => (st.2.1 (st.2.2.1 t i0) k)) L ((st.1 (2 * st.2.2.1 t i0 + 1))) := by
  refine ⟨rfl, fun i h1 hne => ⟨fun _ _ => rfl, ?_, ?_⟩, fun _ _ => rfl, ?_, ?_⟩
  · have ne : st.2.2.1 t i ≠ st.2.2.1 t i0 := fun q => hne (hJ.1 i i0 (by omega) (by omega) q)
    show va_up st.1 _ _ (2 * st.2.2.1 t i) = _
    unfold va_up
    rw [if_neg (by omega)]
  · show va_up st.1 _ _ (2 * st.2.2.1 t i + 1) = _
    unfold va_up
    rw [if_neg (by omega)]
  · show va_up st.1 _ _ (2 * st.2.2.1 t i0) = _
    unfold va_up
    rw [if_pos rfl]
  · show va_up st.1 _ _ (2 * st.2.2.1 t i0 + 1) = _
    unfold va_up
    rw [if_neg (by omega)]
theorem ch_row1 (hJ : inJ st t) (hc : (st.2.2.2.1 t) ≤ 30) (hi : i0 < (st.2.2.2.1 t)) (L : List Int) : CH1 st (uR st (2 * st.2.2.1 t i0 + 1) L) t i0 (fun k => (st.2.1 (st.2.2.1 t i0) k)) ((st.1 (2 * st.2.2.1 t i0))) L := by
  refine ⟨rfl, fun i h1 hne => ⟨fun _ _ => rfl, ?_, ?_⟩, fun _ _ => rfl, ?_, ?_⟩
  · show va_up st.1 _ _ (2 * st.2.2.1 t i) = _
    unfold va_up
    rw [if_neg (by omega)]
  · have ne : st.2.2.1 t i ≠ st.2.2.1 t i0 := fun q => hne (hJ.1 i i0 (by omega) (by omega) q)
    show va_up st.1 _ _ (2 * st.2.2.1 t i + 1) = _
    unfold va_up
    rw [if_neg (by omega)]
  · show va_up st.1 _ _ (2 * st.2.2.1 t i0) = _
    unfold va_up
    rw [if_neg (by omega)]
  · show va_up st.1 _ _ (2 * st.2.2.1 t i0 + 1) = _
    unfold va_up
    rw [if_pos rfl]
theorem ch_set (hJ : inJ st t) (hc : (st.2.2.2.1 t) ≤ 30) (hi : i0 < (st.2.2.2.1 t)) (m o u : Int) : CH1 st (uN (uN (uN st (st.2.2.1 t i0) 3 m) (st.2.2.1 t i0) 4 o) (st.2.2.1 t i0) 5 u) t i0 (fun k => if k = 5 then u else if k = 4 then o else if k = 3 then m else (st.2.1 (st.2.2.1 t i0) k)) ((st.1 (2 * st.2.2.1 t i0))) ((st.1 (2 * st.2.2.1 t i0 + 1))) := by
  refine ⟨rfl, fun i h1 hne => ⟨fun k hk => ?_, rfl, rfl⟩, fun k hk => ?_, rfl, rfl⟩
  · have ne : st.2.2.1 t i ≠ st.2.2.1 t i0 := fun q => hne (hJ.1 i i0 (by omega) (by omega) q)
    rw [uN3]
    exact if_neg ne
  · rw [uN3]
    exact if_pos rfl
theorem vq_page (hJ : inJ st t) (hc : (st.2.2.2.1 t) ≤ 30) (l : List Int) : VQ st (uR st 121 l) t := by
  refine ⟨rfl, fun i hi => ⟨fun _ _ => rfl, ?_, ?_⟩⟩
  · have := hJ.2 i (by omega)
    show va_up st.1 121 l (2 * st.2.2.1 t i) = _
    unfold va_up
    rw [if_neg (by omega)]
  · have := hJ.2 i (by omega)
    show va_up st.1 121 l (2 * st.2.2.1 t i + 1) = _
    unfold va_up
    rw [if_neg (by omega)]
theorem PR.page (h : PR st ms t) {l l' : List Int} (e : l' = l) : SE (uR st 121 l) (uR ms 121 l') t ∧ TI (uR st 121 l) t := by
  obtain ⟨hS, hT, hJ, hK⟩ := h
  have c := hT.c
  subst e
  refine ⟨⟨((vq_page hJ c.2 _).sym.tr hS.1).tr (vq_page hK (by rw [hS.1.1]; exact c.2) _), ?_, hS.2.2.1, hS.2.2.2⟩, (vq_page hJ c.2 _).ti hT⟩
  show va_up ms.1 121 l' 121 = va_up st.1 121 l' 121
  unfold va_up
  rw [if_pos rfl, if_pos rfl]
theorem op_fin {p : Prop} (h : PR st ms t) (hp : p ↔ c = 0) (h2 : c = 0 → SE X Y t ∧ TI X t) : SE (if c = 0 then X else st) (pkS p Y ms) t ∧ TI (if c = 0 then X else st) t := by
  by_cases z : c = 0
  · rw [if_pos z, pkS_t (hp.mpr z)]
    exact h2 z
  · rw [if_neg z, pkS_f (fun q => z (hp.mp q))]
    exact ⟨h.1, h.2.1⟩
theorem op_end (h1 : SE X st' t) (h2 : SE Y ms' t) (h3 : SE X Y t ∧ TI X t) : SE st' ms' t ∧ TI st' t := ⟨h1.sym.tr (h3.1.tr h2), h1.1.ti h3.2⟩
theorem pk_20 {p q : Prop} (h : pk p (pk q 2 0) 1 = 0) : p ∧ ¬ q := by
  by_cases z : p
  · rw [pk_t z] at h
    refine ⟨z, fun w => ?_⟩
    rw [pk_t w] at h
    omega
  · rw [pk_f z] at h
    omega
theorem pk_01 {p : Prop} : p ↔ pk p 0 1 = 0 := by
  by_cases z : p
  · rw [pk_t z]
    exact ⟨fun _ => rfl, fun _ => z⟩
  · rw [pk_f z]
    exact ⟨fun q => absurd q z, fun q => absurd q (by decide)⟩
theorem r8_addl {l : List Int} (h : rowR8 l) (w n : Int) : rowR8 (addl l w n) := r8_oF fun j _ => by
  split
  · exact r8_get h _
  · exact a8_r _
theorem row_121 {r : Nat} (hr : r < 120) (L : List Int) : (uR st r L).1 121 = st.1 121 := by
  show va_up st.1 r L 121 = _
  unfold va_up
  rw [if_neg (by omega)]
/-- make -/
theorem op_make (h : PR st ms t) (inn kind w n off : Int) : mkC ms t inn kind w n off = mkC st t inn kind w n off ∧ SE (if mkC st t inn kind w n off = 0 then mkF st t inn kind w n off else st) (pkS (mkC ms t inn kind w n off = 0) (mkF ms t inn kind w n off) ms) t ∧ TI (if mkC st t inn kind w n off = 0 then mkF st t inn kind w n off else st) t := by
  obtain ⟨hS, hT, hJ, hK⟩ := id h
  have hV := hS.1
  have e : mkC ms t inn kind w n off = mkC st t inn kind w n off := by
    unfold mkC mkOK rnOK
    rw [propext (hV.qisK inn 0), propext (hV.qisK off 1), hV.qchl hT.c.1, hV.1]
  refine ⟨e, op_fin h (by rw [e]) fun z => ?_⟩
  obtain ⟨hok, hc⟩ := pk_20 z
  have hc2 : (st.2.2.2.1 t) < 30 := by omega
  have hc3 : (ms.2.2.2.1 t) < 30 := by rw [hV.1]; exact hc2
  obtain ⟨k1, k2, k3, k4, k5⟩ := hok
  have hl := addl_len [] w n
  have nx := nx_trAl hJ.1 hc2 (addl [] w n) inn kind (if kind = 3 then off else -1)
  have ny := nx_trAl hK.1 hc3 (addl [] w n) inn kind (if kind = 3 then off else -1)
  have p1 : ∀ z : CS, z.2.2.1 t ((z.2.2.2.1 t)) < 60 → ∀ L D k y, (trAl z t L D k y).1 121 = z.1 121 := fun z hz L D k y => by
    show va_up (va_up (va_up z.1 _ _) _ _) _ _ 121 = _
    unfold va_up
    rw [if_neg (by omega), if_neg (by omega), if_neg (by omega)]
  refine ⟨⟨nx.vq ny hV, ?_, hS.2.2.1, hS.2.2.2⟩, hT.more hc2 nx k1 k2 ⟨k4.1, by rw [hl]; simp; omega, r8_addl (fun v hv => by cases hv) w n⟩ (fun i h0 h1 e1 e2 => chl_m1 k4.2 h0 h1 e1 (by rw [e2]; exact ⟨by omega, by omega, by omega, fun j hj => by rw [show Int.toNat 0 + j = j from Nat.zero_add j]⟩)) ⟨fun q => by rw [if_pos q]; exact k5 q, fun q => if_neg q⟩ ⟨fun _ => by simp, fun _ => by simp, fun _ _ => rfl⟩ (by omega)⟩
  show (trAl ms t _ _ _ _).1 121 = (trAl st t _ _ _ _).1 121
  rw [p1 ms (hK.2 _ hc3), p1 st (hJ.2 _ hc2)]
  exact hS.2.1
/-- rename -/
theorem op_rename (h : PR st ms t) (node w n : Int) : rnC ms t node w n = rnC st t node w n ∧ (rnC st t node w n = 0 → rnL ms t node w n = rnL st t node w n) ∧ SE (if rnC st t node w n = 0 then rnF st t node w n else st) (pkS (rnC ms t node w n = 0) (rnF ms t node w n) ms) t ∧ TI (if rnC st t node w n = 0 then rnF st t node w n else st) t := by
  obtain ⟨hS, hT, hJ, hK⟩ := id h
  have hV := hS.1
  have hc := hT.c
  by_cases q : hs st t node
  · have hi : node.toNat < (st.2.2.2.1 t) := by unfold hs at q; omega
    have eL : rnL ms t node w n = rnL st t node w n := by
      unfold rnL
      rw [(hV.2 _ hi).2.1]
    have e : rnC ms t node w n = rnC st t node w n := by
      unfold rnC rnk rnOK
      rw [eL, propext (hV.qhs node), hV.qchl hT.c.1, (hV.2 _ hi).1 1 (by omega)]
    refine ⟨e, fun _ => eL, op_fin h (by rw [e]) fun z => ?_⟩
    obtain ⟨⟨k1, k2, k3, k4⟩, hl⟩ := pk_20 z
    have hl2 : (rnL st t node w n).length ≤ 100 := by omega
    have a := ch_row0 hJ hc.2 hi (rnL st t node w n)
    have b := ch_row0 hK (by rw [hV.1]; exact hc.2) (by rw [hV.1]; exact hi) (rnL ms t node w n)
    have hn0 : node.toNat ≠ 0 := by unfold hs at q; omega
    have hb := hT.b _ hi
    have hv := hT.v _ hi
    have hn := hT.n node.toNat (by omega) hi
    refine ⟨⟨a.vq b hV (fun k hk => (hV.2 _ hi).1 k hk) eL (hV.2 _ hi).2.2, ?_, hS.2.2.1, hS.2.2.2⟩, a.ti hT rfl rfl rfl (fun _ => ⟨k4.1, hl2, r8_addl hn.2.2 w n⟩) (fun z => absurd z hn0) (fun j j0 j1 hne e1 e2 => ?_) hb ⟨⟨hv.1, hv.2.1⟩, ⟨hv.2.2.1, hv.2.2.2.1⟩, hv.2.2.2.2.1, hv.2.2.2.2.2⟩⟩
    · show (uR ms _ _).1 121 = (uR st _ _).1 121
      have j1 := hJ.2 node.toNat (by omega)
      have j2 := hK.2 node.toNat (by omega)
      rw [row_121 (by omega), row_121 (by omega)]
      exact hS.2.1
    · exact chl_m1 k4.2 j0 j1 e1 (by rw [e2]; exact ⟨by omega, by omega, by omega, fun j hj => by rw [show Int.toNat 0 + j = j from Nat.zero_add j]⟩)
  · have n1 : rnC st t node w n = 1 := pk_f fun z => q z.1
    have n2 : rnC ms t node w n = 1 := pk_f fun z => q ((hV.qhs node).mp z.1)
    refine ⟨n2.trans n1.symm, fun z => absurd (n1.symm.trans z) (by decide), op_fin h (by rw [n1, n2]) fun z => absurd (n1.symm.trans z) (by decide)⟩
/-- fill -/
theorem op_fill (h : PR st ms t) (node w n : Int) : fiC ms t node w n = fiC st t node w n ∧ (fiC st t node w n = 0 → fiL ms t node w n = fiL st t node w n) ∧ SE (if fiC st t node w n = 0 then fiF st t node w n else st) (pkS (fiC ms t node w n = 0) (fiF ms t node w n) ms) t ∧ TI (if fiC st t node w n = 0 then fiF st t node w n else st) t := by
  obtain ⟨hS, hT, hJ, hK⟩ := id h
  have hV := hS.1
  have hc := hT.c
  by_cases q : hs st t node
  · have hi : node.toNat < (st.2.2.2.1 t) := by unfold hs at q; omega
    have eL : fiL ms t node w n = fiL st t node w n := by
      unfold fiL
      rw [(hV.2 _ hi).2.2]
    have e : fiC ms t node w n = fiC st t node w n := by
      unfold fiC fiOK fiM
      rw [propext (hV.qhs node), (hV.2 _ hi).1 0 (by omega), (hV.2 _ hi).2.2]
    refine ⟨e, fun _ => eL, op_fin h (by rw [e]) fun z => ?_⟩
    obtain ⟨⟨k1, k2, k3, k4⟩, hl⟩ := pk_20 z
    have a := ch_row1 hJ hc.2 hi (fiL st t node w n)
    have b := ch_row1 hK (by rw [hV.1]; exact hc.2) (by rw [hV.1]; exact hi) (fiL ms t node w n)
    have hv := hT.v _ hi
    have hll : (fiL st t node w n).length = ((st.1 (2 * st.2.2.1 t node.toNat + 1))).length + n.toNat := addl_len _ w n
    unfold fiM at hl
    refine ⟨⟨a.vq b hV (fun k hk => (hV.2 _ hi).1 k hk) (hV.2 _ hi).2.1 eL, ?_, hS.2.2.1, hS.2.2.2⟩, a.ti hT rfl rfl rfl (fun z => hT.n _ (by omega) hi) (fun z => by rw [z]; exact hT.r.2.2) (fun j j0 j1 hne e1 e2 => ?_) ⟨fun z => ?_, fun z => ?_, fun z z2 => ?_⟩ ⟨⟨hv.1, hv.2.1⟩, ⟨hv.2.2.1, hv.2.2.2.1⟩, hv.2.2.2.2.1, hv.2.2.2.2.2⟩⟩
    · show (uR ms _ _).1 121 = (uR st _ _).1 121
      have j1 := hJ.2 node.toNat (by omega)
      have j2 := hK.2 node.toNat (by omega)
      rw [row_121 (by omega), row_121 (by omega)]
      exact hS.2.1
    · by_cases z : node.toNat = 0
      · rw [z] at e1
        have := (hT.d j j0 j1).1
        rw [e1, hT.r.2.1] at this
        omega
      · exact hne (hT.u j node.toNat j0 j1 (by omega) hi e1 e2)
    · rw [if_pos z] at hl
      omega
    · have z' : (st.2.1 (st.2.2.1 t node.toNat) 0) = 2 := z
      rw [if_neg (by omega)] at hl
      omega
    · have z' : (st.2.1 (st.2.2.1 t node.toNat) 0) ≠ 1 := z
      have z2' : (st.2.1 (st.2.2.1 t node.toNat) 0) ≠ 2 := z2
      omega
  · have n1 : fiC st t node w n = 1 := pk_f fun z => q z.1
    have n2 : fiC ms t node w n = 1 := pk_f fun z => q ((hV.qhs node).mp z.1)
    refine ⟨n2.trans n1.symm, fun z => absurd (n1.symm.trans z) (by decide), op_fin h (by rw [n1, n2]) fun z => absurd (n1.symm.trans z) (by decide)⟩
/-- contents -/
theorem op_contents (h : PR st ms t) (node len seed : Int) : coC ms t node len seed = coC st t node len seed ∧ SE (if coC st t node len seed = 0 then coF st t node len seed else st) (pkS (coOK ms t node len seed) (coF ms t node len seed) ms) t ∧ TI (if coC st t node len seed = 0 then coF st t node len seed else st) t := by
  obtain ⟨hS, hT, hJ, hK⟩ := id h
  have hV := hS.1
  have hc := hT.c
  by_cases q : hs st t node
  · have hi : node.toNat < (st.2.2.2.1 t) := by unfold hs at q; omega
    have e0 : coOK ms t node len seed = coOK st t node len seed := by
      unfold coOK
      rw [propext (hV.qhs node), (hV.2 _ hi).1 0 (by omega)]
    refine ⟨by unfold coC; rw [e0], op_fin h (by rw [e0]; exact pk_01) fun z => ?_⟩
    obtain ⟨k1, k2, k3, k4⟩ := pk_01.mpr z
    have a := ch_row1 hJ hc.2 hi (ctL len seed)
    have b := ch_row1 hK (by rw [hV.1]; exact hc.2) (by rw [hV.1]; exact hi) (ctL len seed)
    have hv := hT.v _ hi
    have hll : (ctL len seed).length = len.toNat := oF_len _ _
    refine ⟨⟨a.vq b hV (fun k hk => (hV.2 _ hi).1 k hk) (hV.2 _ hi).2.1 rfl, ?_, hS.2.2.1, hS.2.2.2⟩, a.ti hT rfl rfl rfl (fun z => hT.n _ (by omega) hi) (fun z => by rw [z]; exact hT.r.2.2) (fun j j0 j1 hne e1 e2 => ?_) ⟨fun z => by omega, fun z => ?_, fun z z2 => absurd k2 z⟩ ⟨⟨hv.1, hv.2.1⟩, ⟨hv.2.2.1, hv.2.2.2.1⟩, hv.2.2.2.2.1, hv.2.2.2.2.2⟩⟩
    · show (uR ms _ _).1 121 = (uR st _ _).1 121
      have j1 := hJ.2 node.toNat (by omega)
      have j2 := hK.2 node.toNat (by omega)
      rw [row_121 (by omega), row_121 (by omega)]
      exact hS.2.1
    · by_cases z : node.toNat = 0
      · rw [z] at e1
        have := (hT.d j j0 j1).1
        rw [e1, hT.r.2.1] at this
        omega
      · exact hne (hT.u j node.toNat j0 j1 (by omega) hi e1 e2)
    · have z' : (st.2.1 (st.2.2.1 t node.toNat) 0) = 2 := z
      omega
  · have n1 : ¬ coOK st t node len seed := fun z => q z.1
    have n2 : ¬ coOK ms t node len seed := fun z => q ((hV.qhs node).mp z.1)
    refine ⟨(pk_f n2).trans (pk_f n1).symm, op_fin h ⟨fun z => absurd z n2, fun z => absurd (pk_01.mpr z) n1⟩ fun z => absurd (pk_01.mpr z) n1⟩
/-- set -/
theorem op_set (h : PR st ms t) (node m o u : Int) (hu : u ≤ 2147483647) : seC ms t node m o u = seC st t node m o u ∧ SE (if seC st t node m o u = 0 then seF st t node m o u else st) (pkS (seOK ms t node m o u) (seF ms t node m o u) ms) t ∧ TI (if seC st t node m o u = 0 then seF st t node m o u else st) t := by
  obtain ⟨hS, hT, hJ, hK⟩ := id h
  have hV := hS.1
  have hc := hT.c
  have e0 : seOK ms t node m o u = seOK st t node m o u := by
    unfold seOK
    rw [propext (hV.qhs node)]
  refine ⟨by unfold seC; rw [e0], op_fin h (by rw [e0]; exact pk_01) fun z => ?_⟩
  obtain ⟨q, k2, k3, k4⟩ := pk_01.mpr z
  have hi : node.toNat < (st.2.2.2.1 t) := by unfold hs at q; omega
  have a := ch_set hJ hc.2 hi m o u
  have b := ch_set hK (by rw [hV.1]; exact hc.2) (by rw [hV.1]; exact hi) m o u
  have hb := hT.b _ hi
  refine ⟨⟨a.vq b hV (fun k hk => ?_) (hV.2 _ hi).2.1 (hV.2 _ hi).2.2, hS.2.1, hS.2.2.1, hS.2.2.2⟩, a.ti hT rfl rfl rfl (fun z => hT.n _ (by omega) hi) (fun z => by rw [z]; exact hT.r.2.2) (fun j j0 j1 hne e1 e2 => ?_) hb ⟨k2, k3, k4, hu⟩⟩
  · show (if k = 5 then u else if k = 4 then o else if k = 3 then m else _) = (if k = 5 then u else if k = 4 then o else if k = 3 then m else _)
    rw [(hV.2 _ hi).1 k hk]
  · by_cases z : node.toNat = 0
    · rw [z] at e1
      have := (hT.d j j0 j1).1
      rw [e1, hT.r.2.1] at this
      omega
    · exact hne (hT.u j node.toNat j0 j1 (by omega) hi e1 e2)
end Pr
