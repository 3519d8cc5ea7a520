/-! From AM to the true machine, 1: values, variables, stacks. -/
def okv (v : AV) : Prop := match v with
  | some (.inl x) => r32 x
  | some (.inr (.inl x)) => r64 x
  | _ => True
theorem r32_of (v : Int32) : r32 v.toInt := ⟨v.le_toInt, by have := v.toInt_lt; omega⟩
theorem r64_of (v : Int64) : r64 v.toInt := ⟨v.le_toInt, by have := v.toInt_lt; omega⟩
theorem r8_of (v : Int8) : r8 v.toInt := ⟨v.le_toInt, by have := v.toInt_lt; omega⟩
theorem r32_a (x : Int) : r32 (a32 x) := r32_of _
theorem r64_a (x : Int) : r64 (a64 x) := r64_of _
theorem r8_a (x : Int) : r8 (a8 x) := r8_of _
theorem r8.r32 {x : Int} (h : r8 x) : r32 x := ⟨by have := h.1; omega, by have := h.2; omega⟩
theorem toI {x : Int} (h : r32 x) : (Int32.ofInt x).toInt = x := Int32.toInt_ofInt_of_le h.1 (by have := h.2; omega)
theorem toL {x : Int} (h : r64 x) : (Int64.ofInt x).toInt = x := Int64.toInt_ofInt_of_le h.1 (by have := h.2; omega)
theorem o32 (x : Int) : Int32.ofInt (a32 x) = Int32.ofInt x := by unfold a32; exact Int32.ofInt_toInt _
theorem o64 (x : Int) : Int64.ofInt (a64 x) = Int64.ofInt x := by unfold a64; exact Int64.ofInt_toInt _
theorem o8 (x : Int) : Int32.ofInt (a8 x) = (Int32.ofInt x).toInt8.toInt32 := by
  unfold a8
  rw [Int32.toInt8_ofInt]
  exact Int32.ofInt_int8ToInt _
theorem lt32 {x y : Int} (hx : r32 x) (hy : r32 y) : Int32.ofInt x < Int32.ofInt y ↔ x < y := by rw [Int32.lt_iff_toInt_lt, toI hx, toI hy]
theorem le32 {x y : Int} (hx : r32 x) (hy : r32 y) : Int32.ofInt x ≤ Int32.ofInt y ↔ x ≤ y := by rw [Int32.le_iff_toInt_le, toI hx, toI hy]
theorem eq32 {x y : Int} (hx : r32 x) (hy : r32 y) : Int32.ofInt x = Int32.ofInt y ↔ x = y := by rw [← Int32.toInt_inj, toI hx, toI hy]
theorem lt64 {x y : Int} (hx : r64 x) (hy : r64 y) : Int64.ofInt x < Int64.ofInt y ↔ x < y := by rw [Int64.lt_iff_toInt_lt, toL hx, toL hy]
theorem eq64 {x y : Int} (hx : r64 x) (hy : r64 y) : Int64.ofInt x = Int64.ofInt y ↔ x = y := by rw [← Int64.toInt_inj, toL hx, toL hy]
theorem r0 : r32 0 := ⟨by decide, by decide⟩
theorem l0 : r64 0 := ⟨by decide, by decide⟩
theorem of0 : Int32.ofInt 0 = 0 := rfl
theorem lof0 : Int64.ofInt 0 = 0 := rfl
theorem clN {x : Int} (hx : r32 x) (h : 0 ≤ x) : (Int32.ofInt x).toNatClampNeg = x.toNat := by
  show (Int32.ofInt x).toInt.toNat = x.toNat
  rw [toI hx]
theorem inN {x : Int} {n : Nat} (hx : r32 x) (h : 0 ≤ x ∧ x < n) : vp_in (Int32.ofInt x) n := by
  rw [vp_in_iff, toI hx]
  exact h
/-- the variables that hold something, by their places -/
def prs : Nat → List AV → List (Nat × Value)
  | _, [] => []
  | i, none :: L => prs (i + 1) L
  | i, some v :: L => (i, cv (some v)) :: prs (i + 1) L
theorem mem_prs {q : Nat × Value} : ∀ {L : List AV} {i : Nat}, q ∈ prs i L ↔ ∃ j v, L[j]? = some (some v) ∧ q = (i + j, cv (some v)) := by
  intro L
  induction L with
  | nil => intro i; simp [prs]
  | cons x L ih =>
    intro i
    cases x with
    | none =>
      rw [show prs i (none :: L) = prs (i + 1) L from rfl, ih]
      constructor
      · rintro ⟨j, v, h1, h2⟩
        exact ⟨j + 1, v, by simpa using h1, by rw [h2]; congr 1; omega⟩
      · rintro ⟨j, v, h1, h2⟩
        cases j with
        | zero => simp at h1
        | succ j => exact ⟨j, v, by simpa using h1, by rw [h2]; congr 1; omega⟩
    | some x =>
      rw [show prs i (some x :: L) = (i, cv (some x)) :: prs (i + 1) L from rfl, List.mem_cons, ih]
      constructor
      · rintro (h | ⟨j, v, h1, h2⟩)
        · exact ⟨0, x, rfl, h⟩
        · exact ⟨j + 1, v, by simpa using h1, by rw [h2]; congr 1; omega⟩
      · rintro ⟨j, v, h1, h2⟩
        cases j with
        | zero =>
          left
          simp at h1
          rw [h2, h1]; rfl
        | succ j => exact Or.inr ⟨j, v, by simpa using h1, by rw [h2]; congr 1; omega⟩
theorem lv_mono {ls : Array Slot} {n : Nat} {l l' : List (Nat × Value)} (h : lv_has ls n l) (hs : ∀ q ∈ l', q ∈ l) : lv_has ls n l' := ⟨h.1, h.2.1, fun q hq => h.2.2 q (hs q hq)⟩
def LR (ls : Array Slot) (L : List AV) : Prop := lv_has ls L.length (prs 0 L) ∧ ∀ v ∈ L, okv v
theorem getD_some {L : List AV} {k : Nat} {v : Int ⊕ (Int ⊕ Option Nat)} (h : L.getD k none = some v) : L[k]? = some (some v) := by
  rw [List.getD_eq_getElem?_getD] at h
  cases hk : L[k]? with
  | none => rw [hk] at h; simp at h
  | some w => rw [hk] at h; simp at h; rw [h]
theorem LR.get {ls : Array Slot} {L : List AV} (h : LR ls L) {k : Nat} {v : Int ⊕ (Int ⊕ Option Nat)} (hk : L.getD k none = some v) : ls[k]? = some (.val (cv (some v))) ∧ okv (some v) := by
  have h1 := getD_some hk
  refine ⟨h.1.2.2 (k, cv (some v)) (mem_prs.mpr ⟨k, v, h1, by simp⟩), h.2 _ (List.mem_of_getElem? h1)⟩
theorem a_kill_len (L : List AV) (i : Nat) : (a_kill L i).length = L.length := by
  cases i with
  | zero => rfl
  | succ j =>
    simp only [a_kill]
    split <;> simp
theorem a_kill_get {L : List AV} {i j : Nat} {v : Int ⊕ (Int ⊕ Option Nat)} (h : (a_kill L i)[j]? = some (some v)) : L[j]? = some (some v) ∧ ¬ (j + 1 = i ∧ (cv (some v)).category = 2) := by
  cases i with
  | zero => exact ⟨h, by omega⟩
  | succ k =>
    simp only [a_kill] at h
    split at h
    · rename_i x hx
      rw [List.getElem?_set] at h
      split at h
      · split at h <;> simp at h
      · rename_i hne
        exact ⟨h, by omega⟩
    · rename_i hx
      refine ⟨h, ?_⟩
      rintro ⟨h1, h2⟩
      have h3 : k = j := by omega
      subst h3
      rcases v with x | x | x
      · simp [cv, Value.category] at h2
      · exact hx x (by rw [List.getD_eq_getElem?_getD, h]; rfl)
      · cases x <;> simp [cv, Value.category] at h2
theorem a_kill_ok {L : List AV} {i : Nat} (h : ∀ v ∈ L, okv v) : ∀ v ∈ a_kill L i, okv v := by
  cases i with
  | zero => exact h
  | succ k =>
    simp only [a_kill]
    split
    · intro v hv
      rcases List.mem_or_eq_of_mem_set hv with h1 | h1
      · exact h v h1
      · subst h1; trivial
    · exact h
theorem LR.st1 {ls ls' : Array Slot} {L L' : List AV} {i : Nat} {v : Int ⊕ (Int ⊕ Option Nat)} (h : LR ls L) (ho : okv (some v)) (hs : a_st1 L i (some v) = some L')
    (hl : lv_has ls' L.length ((i, cv (some v)) :: (prs 0 L).filter (fun q => !(q.1 == i) && !(q.1 + 1 == i && q.2.category == 2)))) : LR ls' L' := by
  unfold a_st1 at hs
  split at hs
  · rename_i hi
    cases hs
    refine ⟨?_, ?_⟩
    · rw [List.length_set, a_kill_len]
      refine lv_mono hl ?_
      intro q hq
      obtain ⟨j, w, h1, h2⟩ := mem_prs.mp hq
      rw [List.getElem?_set] at h1
      split at h1
      · rename_i hij
        rw [a_kill_len, if_pos hi] at h1
        cases h1
        rw [h2, ← hij]
        simp
      · rename_i hij
        obtain ⟨h3, h4⟩ := a_kill_get h1
        refine List.mem_cons_of_mem _ (List.mem_filter.mpr ⟨mem_prs.mpr ⟨j, w, h3, h2⟩, ?_⟩)
        rw [h2]
        have h5 : ¬ (0 + j = i) := by omega
        have h6 : ¬ (0 + j + 1 = i ∧ (cv (some w)).category = 2) := by rintro ⟨a, b⟩; exact h4 ⟨by omega, b⟩
        simp only [Bool.and_eq_true, Bool.not_eq_true', beq_eq_false_iff_ne, ne_eq, Bool.and_eq_false_iff]
        refine ⟨h5, ?_⟩
        by_cases h7 : 0 + j + 1 = i
        · exact Or.inr (fun h8 => h6 ⟨h7, h8⟩)
        · exact Or.inl h7
    · intro w hw
      rcases List.mem_or_eq_of_mem_set hw with h1 | h1
      · exact a_kill_ok h.2 w h1
      · subst h1; exact ho
  · cases hs
theorem LR.st2 {ls ls' : Array Slot} {L L' : List AV} {i : Nat} {v : Int ⊕ (Int ⊕ Option Nat)} (h : LR ls L) (ho : okv (some v)) (hs : a_st2 L i (some v) = some L')
    (hl : lv_has ls' L.length ((i, cv (some v)) :: (prs 0 L).filter (fun q => !(q.1 == i) && (!(q.1 == i + 1) && !(q.1 + 1 == i && q.2.category == 2))))) : LR ls' L' := by
  unfold a_st2 at hs
  split at hs
  · rename_i hi
    cases hs
    refine ⟨?_, ?_⟩
    · rw [List.length_set, List.length_set, a_kill_len]
      refine lv_mono hl ?_
      intro q hq
      obtain ⟨j, w, h1, h2⟩ := mem_prs.mp hq
      rw [List.getElem?_set] at h1
      split at h1
      · split at h1 <;> simp at h1
      · rename_i hij1
        rw [List.getElem?_set] at h1
        split at h1
        · rename_i hij
          rw [a_kill_len, if_pos (by omega)] at h1
          cases h1
          rw [h2, ← hij]
          simp
        · rename_i hij
          obtain ⟨h3, h4⟩ := a_kill_get h1
          refine List.mem_cons_of_mem _ (List.mem_filter.mpr ⟨mem_prs.mpr ⟨j, w, h3, h2⟩, ?_⟩)
          rw [h2]
          have h5 : ¬ (0 + j = i) := by omega
          have h55 : ¬ (0 + j = i + 1) := by omega
          have h6 : ¬ (0 + j + 1 = i ∧ (cv (some w)).category = 2) := by rintro ⟨a, b⟩; exact h4 ⟨by omega, b⟩
          simp only [Bool.and_eq_true, Bool.not_eq_true', beq_eq_false_iff_ne, ne_eq, Bool.and_eq_false_iff]
          refine ⟨h5, h55, ?_⟩
          by_cases h7 : 0 + j + 1 = i
          · exact Or.inr (fun h8 => h6 ⟨h7, h8⟩)
          · exact Or.inl h7
    · intro w hw
      rcases List.mem_or_eq_of_mem_set hw with h1 | h1
      · rcases List.mem_or_eq_of_mem_set h1 with h1 | h1
        · exact a_kill_ok h.2 w h1
        · subst h1; exact ho
      · subst h1; trivial
  · cases hs
/-- a stack whose entries are all values in range -/
def SK (S : List AV) : Prop := ∀ v ∈ S, okv v ∧ v.isSome = true
theorem SK.tail {v : AV} {S : List AV} (h : SK (v :: S)) : SK S := fun w hw => h w (List.mem_cons_of_mem _ hw)
theorem SK.head {v : AV} {S : List AV} (h : SK (v :: S)) : okv v := (h v List.mem_cons_self).1
theorem SK.cons {v : Int ⊕ (Int ⊕ Option Nat)} {S : List AV} (h : SK S) (hv : okv (some v)) : SK (some v :: S) := by
  intro w hw
  rcases List.mem_cons.mp hw with h1 | h1
  · subst h1; exact ⟨hv, rfl⟩
  · exact h w h1
theorem cat_cv {v : AV} (h : v.isSome = true) : (cv v).category = a_cat v := by
  rcases v with _ | x | x | _ | x <;> first | rfl | cases h
theorem wt_cv {S : List AV} (h : SK S) : ((S.map cv).map fun v => v.category).sum = a_wt S := by
  unfold a_wt
  induction S with
  | nil => rfl
  | cons v S ih =>
    simp only [List.map_cons, List.sum_cons]
    rw [ih h.tail, cat_cv (h v List.mem_cons_self).2]
/-- a method's first variables -/
theorem LR.entry {z : AY} {As : List AV} (h : SK As) (hl : (a_spr As).length ≤ z.2.2.2.1) : (lg_sl (As.map cv)).length = (a_spr As).length ∧ LR ((lg_sl (As.map cv) ++ List.replicate (z.2.2.2.1 - (lg_sl (As.map cv)).length) Slot.unset).toArray) (ent z As) := by
  have e1 : ∀ Bs : List AV, SK Bs → (lg_sl (Bs.map cv)).length = (a_spr Bs).length := by
    intro Bs
    induction Bs with
    | nil => intro _; rfl
    | cons v Bs ih =>
      intro hB
      have h1 := ih hB.tail
      have h2 := (hB v List.mem_cons_self).2
      rcases v with _ | x | x | _ | x <;> first | (cases h2; done) | (simp [lg_sl, a_spr, cv, Value.category] at h1 ⊢; omega)
  have e2 : ∀ (Bs : List AV) (i : Nat), SK Bs → ∀ q ∈ prs i (a_spr Bs), q ∈ lv_args i (Bs.map cv) := by
    intro Bs
    induction Bs with
    | nil => intro i _ q hq; cases hq
    | cons v Bs ih =>
      intro i hB q hq
      have h2 := (hB v List.mem_cons_self).2
      rcases v with _ | x | x | x
      · cases h2
      · rcases List.mem_cons.mp (show q ∈ (i, cv (aI x)) :: prs (i + 1) (a_spr Bs) from hq) with h3 | h3
        · rw [h3]; exact List.mem_cons_self
        · exact List.mem_cons_of_mem _ (ih (i + 1) hB.tail q h3)
      · rcases List.mem_cons.mp (show q ∈ (i, cv (aL x)) :: prs (i + 1 + 1) (a_spr Bs) from hq) with h3 | h3
        · rw [h3]; exact List.mem_cons_self
        · exact List.mem_cons_of_mem _ (ih (i + 2) hB.tail q h3)
      · rcases List.mem_cons.mp (show q ∈ (i, cv (some (.inr (.inr x)))) :: prs (i + 1) (a_spr Bs) from hq) with h3 | h3
        · rw [h3]; exact List.mem_cons_self
        · have h4 := ih (i + 1) hB.tail q h3
          cases x <;> exact List.mem_cons_of_mem _ h4
  refine ⟨e1 As h, ?_, ?_⟩
  · have e3 : (ent z As).length = z.2.2.2.1 := by
      simp only [ent, List.length_append, List.length_replicate]
      omega
    rw [e3]
    refine lv_mono (lv_entry (As.map cv) (by rw [e1 As h]; exact hl)) ?_
    intro q hq
    refine e2 As 0 h q ?_
    obtain ⟨j, w, h1, h2⟩ := mem_prs.mp hq
    refine mem_prs.mpr ⟨j, w, ?_, h2⟩
    unfold ent at h1
    rw [List.getElem?_append] at h1
    split at h1
    · exact h1
    · rw [List.getElem?_replicate] at h1
      split at h1 <;> simp at h1
  · intro v hv
    rcases List.mem_append.mp hv with h1 | h1
    · obtain ⟨w, hw, hq⟩ := List.mem_flatMap.mp h1
      have h3 := h w hw
      rcases w with _ | x | x | x
      · cases h3.2
      · simp at hq; subst hq; exact h3.1
      · simp at hq
        rcases hq with rfl | rfl
        · exact h3.1
        · trivial
      · simp at hq; subst hq; trivial
    · rw [(List.mem_replicate.mp h1).2]; trivial
