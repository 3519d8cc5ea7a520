/-! From AM to the true machine, 2: the heap; instructions that make no call. -/
theorem lookup_in {l : List (List (Nat × Jvm.ClassFile.Instr × Nat))} {pc : Nat} {r : Jvm.ClassFile.Instr × Nat} (h : (l.getD (pc / 16) []).lookup pc = some r) : (pc, r) ∈ l.flatten := by
  have h1 := lookup_mem h
  rw [List.getD_eq_getElem?_getD] at h1
  cases hk : l[pc / 16]? with
  | none => rw [hk] at h1; simp at h1
  | some c =>
    rw [hk] at h1
    exact List.mem_flatten.mpr ⟨c, List.mem_of_getElem? hk, by simpa using h1⟩
theorem dcd {y : AY} (hy : y ∈ allY) {pc : Nat} {i : Jvm.ClassFile.Instr} {len : Nat} (h : tb y pc = some (i, len)) : decode (bt y) pc = .ok (i, len) := by
  have h1 := dc_all y hy
  unfold dcP at h1
  exact h1 (pc, i, len) (lookup_in (l := y.2.2.1) h)
/-- where a state stands to the one at the law's start -/
def ct (s0 s : State) : Prop := s0.WarmedH s.vm ∧ ∀ q : Nat, q < s0.heap.size → s.heap[q]? = s0.heap[q]?
theorem wd {s0 s : State} {a0 args : Array Value} (hB : ∀ w ∈ lw_tbl, w.before a0 s0 = true) (hC : ct s0 s) {p : Nat} {w : Jvm.Cond} (h : lw_tbl[p]? = some w) (hk : (w.onTables && w.keepsH) = true) : w.before args s = true := by
  simp only [Bool.and_eq_true] at hk
  have h1 := Cond.onTables_warmH (T := s) (args' := args) hC.1 hk.1 hk.2 (hB w (List.mem_of_getElem? h))
  rwa [State.setVm_self] at h1
def arT (k : Nat) : FieldType := match k with
  | 0 => .int
  | 1 => .byte
  | 2 => .long
  | k + 3 => .object (cNm k)
def okE (e : AE) : Prop := match e with
  | .inl (_, fs) => ∀ v ∈ fs, okv v ∧ v.isSome = true
  | .inr (k, n, .inl f) => n < 2147483648 ∧ ((k = 0 ∧ ∀ j, r32 (f j)) ∨ (k = 1 ∧ ∀ j, r8 (f j)) ∨ (k = 2 ∧ ∀ j, r64 (f j)))
  | .inr (k, n, .inr _) => n < 2147483648 ∧ k = 3
def cA (k : Nat) (f : Nat → Int) : (Nat → Int32) ⊕ (Nat → Int64) ⊕ (Nat → UInt32) ⊕ (Nat → UInt64) ⊕ (Nat → Option Nat) := match k with
  | 2 => .inr (.inl (fun j => Int64.ofInt (f j)))
  | _ => .inl (fun j => Int32.ofInt (f j))
def ce (dA : Nat → ClassId) (e : AE) : va_E := match e with
  | .inl (ci, fs) => .inr (ci, fs.map cv)
  | .inr (k, n, .inl f) => .inl (dA k, n, cA k f)
  | .inr (k, n, .inr f) => .inl (dA k, n, .inr (.inr (.inr (.inr f))))
/-- an array of before the law's start, which nobody writes -/
def sta (s : State) (b a : Nat) (e : AE) : Prop := match e with
  | .inr (k, n, .inl f) => k ≤ 1 ∧ va_T (arT k) a n (fun j => .int (Int32.ofInt (f j))) (fun q => b ≤ q) s s.heap
  | _ => False
def HR (D : va_G) (dA : Nat → ClassId) (s : State) (h : AH) (H : Heap) : Prop := H.size = h.2.1 ∧ h.2.2.2.1 ≤ h.2.1 ∧ ∀ (a : Nat) (e : AE), h.1 a = some e → okE e ∧ (h.2.2.2.1 ≤ a → va_at D vcl (a, ce dA e) H) ∧ (a < h.2.2.2.1 → sta s h.2.2.2.1 a e)
def tyl (dA : Nat → ClassId) : List (ClassId × FieldType) := [(dA 0, arT 0), (dA 1, arT 1), (dA 2, arT 2), (dA 3, arT 3)]
theorem tyl_at {dA : Nat → ClassId} {k : Nat} (hk : k ≤ 3) : (tyl dA)[k]? = some (dA k, arT k) := by
  match k, hk with
  | 0, _ => rfl
  | 1, _ => rfl
  | 2, _ => rfl
  | 3, _ => rfl
  | k + 4, h => exact absurd h (by omega)
theorem HR.set {D : va_G} {dA : Nat → ClassId} {s : State} {h : AH} {H H1 : Heap} {a : Nat} {e1 : AE} (hH : HR D dA s h H) (hb : h.2.2.2.1 ≤ a) (ho : okE e1) (hv : va_at D vcl (a, ce dA e1) H1) (hz : H1.size = H.size) (hq : ∀ q : Nat, q ≠ a → H1[q]? = H[q]?) : HR D dA s (hput h a e1) H1 := by
  obtain ⟨h1, h2, h3⟩ := hH
  refine ⟨hz.trans h1, h2, fun b e he => ?_⟩
  simp only [hput, hup] at he
  split at he
  · rename_i hba
    cases he
    subst hba
    exact ⟨ho, fun _ => hv, fun hlt => absurd hb (Nat.not_le.mpr hlt)⟩
  · rename_i hba
    obtain ⟨g1, g2, g3⟩ := h3 b e he
    exact ⟨g1, fun hbb => (g2 hbb).kept (hq b hba), g3⟩
theorem HR.push {D : va_G} {dA : Nat → ClassId} {s : State} {h : AH} {H H1 : Heap} {e1 : AE} {n : Nat} (hH : HR D dA s h H) (ho : okE e1) (hv : va_at D vcl (h.2.1, ce dA e1) H1) (hz : H1.size = H.size + 1) (hq : ∀ q : Nat, q < H.size → H1[q]? = H[q]?) : HR D dA s (hnew h e1 n) H1 := by
  obtain ⟨h1, h2, h3⟩ := hH
  refine ⟨by rw [hz, h1]; rfl, Nat.le_succ_of_le h2, fun b e he => ?_⟩
  simp only [hnew, hup] at he
  split at he
  · rename_i hba
    cases he
    subst hba
    exact ⟨ho, fun _ => hv, fun hlt => absurd h2 (Nat.not_le.mpr hlt)⟩
  · obtain ⟨g1, g2, g3⟩ := h3 b e he
    exact ⟨g1, fun hbb => (g2 hbb).kept (hq b (g2 hbb).lt), g3⟩
/-- the goal of the simulation at a place of AM -/
def SW (p : Program) (l : Launch) (e : Env) (R : Room) (s : State) (m : MethodId) (args : Array Value) (below : List Frame) (meth : Method) (c : Code) (Q : State → Prop) (D : va_G) (dA : Nat → ClassId) (z0 t0 : Nat) (pc : Nat) (L S : List AV) (h : AH) : Prop :=
  ∀ (H : Heap) (locs : List Loc) (ls : Array Slot), LR ls L → SK S → HR D dA s h H → va_S (fun q => h.2.2.2.1 ≤ q) s.heap H locs → W p l e R s m args below meth c H locs (h.2.1 - z0) (h.2.2.1 - t0) Q (F0 m pc ls (S.map cv))
/-- what is known inside an invocation of y -/
def cx (s0 : State) (D : va_G) (dA : Nat → ClassId) (p : Program) (s : State) (m : MethodId) (meth : Method) (c : Code) (y : AY) : Prop :=
  p.tables.exec = Jvm.exec ∧ c.code = bt y ∧ c.maxLocals = y.2.2.2.1 ∧ s.vm.findClass (cNm y.2.1) = some m.cls ∧ y ∈ allY ∧ meth.sig.returnType = y.2.2.2.2.1 ∧ meth.locks = false ∧ (y.2.2.2.2.2 = true → meth.name = "<init>") ∧ ct s0 s ∧ va_K D vcl (tyl dA) s
theorem a_st1_lt {L L' : List AV} {i : Nat} {v : AV} (h : a_st1 L i v = some L') : i < L.length := by
  unfold a_st1 at h
  split at h
  · assumption
  · cases h
theorem a_st2_lt {L L' : List AV} {i : Nat} {v : AV} (h : a_st2 L i v = some L') : i + 1 < L.length := by
  unfold a_st2 at h
  split at h
  · assumption
  · cases h
theorem a_nxt_eq {pc t : Nat} {off : Int} (h : a_nxt pc off = some t) : (pc : Int) + off = (t : Int) := by
  unfold a_nxt at h
  split at h
  · rename_i x hx
    cases h
    rw [hx]; rfl
  · cases h
theorem one_cat {v : AV} (h : a_one v = true) : (cv v).category = 1 := by
  rcases v with _ | x | x | _ | x <;> first | rfl | cases h
theorem lcmp_eq {x z : Int} (hx : r64 x) (hz : r64 z) : lg_cmp (Int64.ofInt x) (Int64.ofInt z) = Int32.ofInt (a_lcmp x z) := by
  unfold lg_cmp a_lcmp
  have e1 : (Int64.ofInt x > Int64.ofInt z) ↔ z < x := lt64 hz hx
  have e2 : (Int64.ofInt x = Int64.ofInt z) ↔ x = z := eq64 hx hz
  by_cases h1 : z < x
  · rw [if_pos (e1.mpr h1), if_pos h1]; rfl
  · rw [if_neg (fun q => h1 (e1.mp q)), if_neg h1]
    by_cases h2 : x = z
    · rw [if_pos (e2.mpr h2), if_pos h2]; rfl
    · rw [if_neg (fun q => h2 (e2.mp q)), if_neg h2]; rfl
theorem r64_of32 {x : Int} (h : r32 x) : r64 x := ⟨by have := h.1; omega, by have := h.2; omega⟩
theorem a_lcmp_r (x z : Int) : r32 (a_lcmp x z) := by
  unfold a_lcmp
  split
  · exact ⟨by decide, by decide⟩
  · split <;> exact ⟨by decide, by decide⟩
/-- the instructions that look at the heap or the tables -/
def s_hp (i : Jvm.ClassFile.Instr) : Bool := match i with
  | .getfield _ | .putfield _ | .getstatic _ | .new _ | .newarray _ | .anewarray _ | .iaload | .baload | .laload | .aaload | .iastore | .bastore | .lastore | .aastore | .arraylength => true
  | _ => false
section SimA
variable {s0 : State} {a0 : Array Value} {p : Program} {l : Launch} {e : Env} {R : Room} {s : State} {m : MethodId} {args : Array Value} {below : List Frame} {meth : Method} {c : Code} {Q : State → Prop} {D : va_G} {dA : Nat → ClassId} {z0 t0 : Nat}
variable {y : AY} {pc pc' len : Nat} {L S L' S' : List AV} {h h' : AH}
theorem sm_push {i : Jvm.ClassFile.Instr} {v : Int ⊕ (Int ⊕ Option Nat)} (hv : okv (some v)) (hw : ∀ (H : Heap) (locs : List Loc) (ls : Array Slot) (rest : List Value), W p l e R s m args below meth c H locs (h.2.1 - z0) (h.2.2.1 - t0) Q (F0 m pc' ls (cv (some v) :: rest)) → W p l e R s m args below meth c H locs (h.2.1 - z0) (h.2.2.1 - t0) Q (F0 m pc ls rest)) (k : SW p l e R s m args below meth c Q D dA z0 t0 pc' L (some v :: S) h) : SW p l e R s m args below meth c Q D dA z0 t0 pc L S h :=
  fun H locs ls hL hS hH hV => hw H locs ls (S.map cv) (k H locs ls hL (hS.cons hv) hH hV)
set_option maxHeartbeats 4000000 in
theorem sm_simple (hx : cx s0 D dA p s m meth c y) (hB : ∀ w ∈ lw_tbl, w.before a0 s0 = true) {i : Jvm.ClassFile.Instr} (hd : tb y pc = some (i, len)) (hl : L.length = y.2.2.2.1)
    (hi : s_hp i = false)
    (hs : stp y i len pc L S h = some (pc', L', S', h')) (k : SW p l e R s m args below meth c Q D dA z0 t0 pc' L' S' h') : SW p l e R s m args below meth c Q D dA z0 t0 pc L S h := by
  obtain ⟨hx1, hb, hml, hown, hy, -, -, -, hC, -⟩ := hx
  have hdg := dcd hy hd
  intro H locs ls hL hS hH hV
  have hsz : ls.size = L.length := hL.1.1
  unfold stp at hs
  split at hs <;> first | (exact Bool.noConfusion (show true = false from hi)) | skip
  -- iconst
  · rename_i n
    split at hs
    · rename_i hn
      cases hs
      exact lv_iconst (v := Int32.ofInt n) hx1 hb hdg rfl (k H locs ls hL (hS.cons (v := .inl n) ⟨by omega, by omega⟩) hH hV)
    · cases hs
  -- bipush
  · rename_i n
    split at hs
    · rename_i hn
      cases hs
      refine lv_bipush (v := Int32.ofInt n) hx1 hb hdg ?_ (k H locs ls hL (hS.cons (v := .inl n) ⟨by omega, by omega⟩) hH hV)
      rw [Int8.toInt32_ofInt hn.1 hn.2]
    · cases hs
  -- sipush
  · rename_i n
    split at hs
    · rename_i hn
      cases hs
      refine lv_sipush (v := Int32.ofInt n) hx1 hb hdg ?_ (k H locs ls hL (hS.cons (v := .inl n) ⟨by omega, by omega⟩) hH hV)
      rw [Int16.toInt32_ofInt hn.1 hn.2]
    · cases hs
  -- lconst
  · rename_i n
    cases hs
    refine lv_lconst (v := Int64.ofInt ((n : Nat) : Int)) hx1 hb hdg ?_ (k H locs ls hL (hS.cons (v := .inr (.inl ((n : Nat) : Int))) ⟨by omega, by omega⟩) hH hV)
    rw [Int64.ofInt_eq_ofNat]
  -- ldc
  · rename_i x
    cases hv : tI y.2.1 x with
    | none => rw [hv] at hs; cases hs
    | some v =>
      rw [hv] at hs
      cases hs
      obtain ⟨hr, q, hq⟩ := tI_ok hv
      exact lv_ldc hx1 hb hown (wd hB hC hq rfl) hdg (k H locs ls hL (hS.cons (v := .inl v) hr) hH hV)
  -- ldc2
  · rename_i x
    cases hv : tJ y.2.1 x with
    | none => rw [hv] at hs; cases hs
    | some v =>
      rw [hv] at hs
      cases hs
      obtain ⟨hr, q, hq⟩ := tJ_ok hv
      exact lv_ldc2 hx1 hb hown (wd hB hC hq rfl) hdg (k H locs ls hL (hS.cons (v := .inr (.inl v)) hr) hH hV)
  · rename_i q
    unfold s_ldi at hs
    split at hs
    · rename_i x hx
      cases hs
      obtain ⟨g1, g2⟩ := hL.get hx
      exact lv_iload hx1 hb hdg g1 (k H locs ls hL (hS.cons (v := .inl x) g2) hH hV)
    · cases hs
  · rename_i q
    unfold s_ldi at hs
    split at hs
    · rename_i x hx
      cases hs
      obtain ⟨g1, g2⟩ := hL.get hx
      exact lv_iload_n hx1 hb hdg rfl g1 (k H locs ls hL (hS.cons (v := .inl x) g2) hH hV)
    · cases hs
  · rename_i q
    unfold s_ldl at hs
    split at hs
    · rename_i x hx
      cases hs
      obtain ⟨g1, g2⟩ := hL.get hx
      exact lv_lload hx1 hb hdg g1 (k H locs ls hL (hS.cons (v := .inr (.inl x)) g2) hH hV)
    · cases hs
  · rename_i q
    unfold s_ldl at hs
    split at hs
    · rename_i x hx
      cases hs
      obtain ⟨g1, g2⟩ := hL.get hx
      exact lv_lload_n hx1 hb hdg rfl g1 (k H locs ls hL (hS.cons (v := .inr (.inl x)) g2) hH hV)
    · cases hs
  · rename_i q
    unfold s_lda at hs
    split at hs
    · rename_i x hx
      cases hs
      obtain ⟨g1, g2⟩ := hL.get hx
      exact lv_aload hx1 hb hdg g1 (k H locs ls hL (hS.cons (v := .inr (.inr (some x))) g2) hH hV)
    · cases hs
  · rename_i q
    unfold s_lda at hs
    split at hs
    · rename_i x hx
      cases hs
      obtain ⟨g1, g2⟩ := hL.get hx
      exact lv_aload_n hx1 hb hdg rfl g1 (k H locs ls hL (hS.cons (v := .inr (.inr (some x))) g2) hH hV)
    · cases hs
  · rename_i q
    unfold s_sti at hs
    split at hs
    · rename_i x S2
      cases ha : a_st1 L q (some (.inl x)) with
      | none => rw [ha] at hs; cases hs
      | some L2 =>
        rw [ha] at hs
        cases hs
        exact lv_istore hx1 hb hdg hL.1 (a_st1_lt ha) rfl (fun ls' hl' => k H locs ls' (hL.st1 hS.head ha hl') hS.tail hH hV)
    · cases hs
  · rename_i q
    unfold s_sti at hs
    split at hs
    · rename_i x S2
      cases ha : a_st1 L q (some (.inl x)) with
      | none => rw [ha] at hs; cases hs
      | some L2 =>
        rw [ha] at hs
        cases hs
        exact lv_istore_n hx1 hb hdg rfl hL.1 (a_st1_lt ha) rfl (fun ls' hl' => k H locs ls' (hL.st1 hS.head ha hl') hS.tail hH hV)
    · cases hs
  · rename_i q
    unfold s_stl at hs
    split at hs
    · rename_i x S2
      cases ha : a_st2 L q (some (.inr (.inl x))) with
      | none => rw [ha] at hs; cases hs
      | some L2 =>
        rw [ha] at hs
        cases hs
        exact lv_lstore hx1 hb hdg hL.1 (a_st2_lt ha) rfl (fun ls' hl' => k H locs ls' (hL.st2 hS.head ha hl') hS.tail hH hV)
    · cases hs
  · rename_i q
    unfold s_stl at hs
    split at hs
    · rename_i x S2
      cases ha : a_st2 L q (some (.inr (.inl x))) with
      | none => rw [ha] at hs; cases hs
      | some L2 =>
        rw [ha] at hs
        cases hs
        exact lv_lstore_n hx1 hb hdg rfl hL.1 (a_st2_lt ha) rfl (fun ls' hl' => k H locs ls' (hL.st2 hS.head ha hl') hS.tail hH hV)
    · cases hs
  · rename_i q
    unfold s_sta at hs
    split at hs
    · rename_i x S2
      cases ha : a_st1 L q (some (.inr (.inr (some x)))) with
      | none => rw [ha] at hs; cases hs
      | some L2 =>
        rw [ha] at hs
        cases hs
        exact lv_astore hx1 hb hdg hL.1 (a_st1_lt ha) rfl (fun ls' hl' => k H locs ls' (hL.st1 hS.head ha hl') hS.tail hH hV)
    · cases hs
  · rename_i q
    unfold s_sta at hs
    split at hs
    · rename_i x S2
      cases ha : a_st1 L q (some (.inr (.inr (some x)))) with
      | none => rw [ha] at hs; cases hs
      | some L2 =>
        rw [ha] at hs
        cases hs
        exact lv_astore_n hx1 hb hdg rfl hL.1 (a_st1_lt ha) rfl (fun ls' hl' => k H locs ls' (hL.st1 hS.head ha hl') hS.tail hH hV)
    · cases hs
  · rename_i q n
    unfold s_inc at hs
    split at hs
    · rename_i x hx
      cases ha : a_st1 L q (some (.inl (a32 (x + n)))) with
      | none => rw [ha] at hs; cases hs
      | some L2 =>
        rw [ha] at hs
        cases hs
        obtain ⟨kk, hkk⟩ := List.getElem?_of_mem (mem_prs (q := (q, cv (some (.inl x)))) (L := L) (i := 0) |>.mpr ⟨q, _, getD_some hx, by simp⟩)
        exact lv_iinc (v := Int32.ofInt (a32 (x + n))) hx1 hb hdg hL.1 hkk (by rw [o32, Int32.ofInt_add]) (a_st1_lt ha) rfl (fun ls' hl' => k H locs ls' (hL.st1 (v := .inl (a32 (x + n))) (r32_a _) ha hl') hS hH hV)
    · cases hs
  · rename_i q n
    unfold s_inc at hs
    split at hs
    · rename_i x hx
      cases ha : a_st1 L q (some (.inl (a32 (x + n)))) with
      | none => rw [ha] at hs; cases hs
      | some L2 =>
        rw [ha] at hs
        cases hs
        obtain ⟨kk, hkk⟩ := List.getElem?_of_mem (mem_prs (q := (q, cv (some (.inl x)))) (L := L) (i := 0) |>.mpr ⟨q, _, getD_some hx, by simp⟩)
        exact lv_iincW (v := Int32.ofInt (a32 (x + n))) hx1 hb hdg hL.1 hkk (by rw [o32, Int32.ofInt_add]) (a_st1_lt ha) rfl (fun ls' hl' => k H locs ls' (hL.st1 (v := .inl (a32 (x + n))) (r32_a _) ha hl') hS hH hV)
    · cases hs
  · unfold s_ii at hs
    split at hs
    · rename_i z x S2
      cases hs
      have e1 : Int32.ofInt x + Int32.ofInt z = Int32.ofInt (a32 (x + z)) := by rw [o32, Int32.ofInt_add]
      refine lv_iadd (x := Int32.ofInt x) (y := Int32.ofInt z) hx1 hb hdg ?_
      rw [e1]
      exact k H locs ls hL (hS.tail.tail.cons (v := .inl _) (r32_a _)) hH hV
    · cases hs
  · unfold s_ii at hs
    split at hs
    · rename_i z x S2
      cases hs
      have e1 : Int32.ofInt x - Int32.ofInt z = Int32.ofInt (a32 (x - z)) := by rw [o32, Int32.ofInt_sub]
      refine lv_isub (x := Int32.ofInt x) (y := Int32.ofInt z) hx1 hb hdg ?_
      rw [e1]
      exact k H locs ls hL (hS.tail.tail.cons (v := .inl _) (r32_a _)) hH hV
    · cases hs
  · unfold s_ii at hs
    split at hs
    · rename_i z x S2
      cases hs
      have e1 : Int32.ofInt x * Int32.ofInt z = Int32.ofInt (a32 (x * z)) := by rw [o32, Int32.ofInt_mul]
      refine lv_imul (x := Int32.ofInt x) (y := Int32.ofInt z) hx1 hb hdg ?_
      rw [e1]
      exact k H locs ls hL (hS.tail.tail.cons (v := .inl _) (r32_a _)) hH hV
    · cases hs
  · unfold s_ii at hs
    split at hs
    · rename_i z x S2
      cases hs
      have e1 : Int32.ofInt x &&& Int32.ofInt z = Int32.ofInt (a_and x z) := (Int32.ofInt_toInt _).symm
      refine lv_iand (x := Int32.ofInt x) (y := Int32.ofInt z) hx1 hb hdg ?_
      rw [e1]
      exact k H locs ls hL (hS.tail.tail.cons (v := .inl _) (r32_of _)) hH hV
    · cases hs
  · unfold s_ii at hs
    split at hs
    · rename_i z x S2
      cases hs
      have e1 : ((Int32.ofInt x).toUInt32 >>> ((Int32.ofInt z).toUInt32 &&& Int32.toUInt32 31)).toInt32 = Int32.ofInt (a_ushr x z) := (Int32.ofInt_toInt _).symm
      exact lv_iushr (x := Int32.ofInt x) (y := Int32.ofInt z) hx1 hb hdg e1 (k H locs ls hL (hS.tail.tail.cons (v := .inl _) (r32_of _)) hH hV)
    · cases hs
  · unfold s_idv at hs
    split at hs
    · rename_i z x S2
      split at hs
      · cases hs
      · rename_i hz
        cases hs
        have e1 : Int32.ofInt x / Int32.ofInt z = Int32.ofInt (a_div x z) := (Int32.ofInt_toInt _).symm
        have hne : ¬ Int32.ofInt z = 0 := fun q => hz ((eq32 hS.head r0).mp q)
        refine lv_idiv (x := Int32.ofInt x) (y := Int32.ofInt z) hx1 hb hdg hne ?_
        rw [e1]
        exact k H locs ls hL (hS.tail.tail.cons (v := .inl _) (r32_of _)) hH hV
    · cases hs
  · unfold s_i2i at hs
    split at hs
    · rename_i x S2
      cases hs
      have e1 : -Int32.ofInt x = Int32.ofInt (a32 (-x)) := by rw [o32, Int32.neg_ofInt]
      refine lv_ineg (x := Int32.ofInt x) hx1 hb hdg ?_
      rw [e1]
      exact k H locs ls hL (hS.tail.cons (v := .inl _) (r32_a _)) hH hV
    · cases hs
  · unfold s_i2i at hs
    split at hs
    · rename_i x S2
      cases hs
      exact lv_i2b (x := Int32.ofInt x) hx1 hb hdg (o8 x).symm (k H locs ls hL (hS.tail.cons (v := .inl _) (r8_a _).r32) hH hV)
    · cases hs
  · unfold s_i2l at hs
    split at hs
    · rename_i x S2
      cases hs
      exact lv_i2l (x := Int32.ofInt x) (v := Int64.ofInt x) hx1 hb hdg (Int32.toInt64_ofInt hS.head.1 hS.head.2) (k H locs ls hL (hS.tail.cons (v := .inr (.inl _)) (r64_of32 hS.head)) hH hV)
    · cases hs
  · unfold s_l2i at hs
    split at hs
    · rename_i x S2
      cases hs
      exact lv_l2i (x := Int64.ofInt x) (v := Int32.ofInt (a32 x)) hx1 hb hdg (by rw [o32, Int64.toInt32_ofInt]) (k H locs ls hL (hS.tail.cons (v := .inl _) (r32_a _)) hH hV)
    · cases hs
  · unfold s_ll at hs
    split at hs
    · rename_i z x S2
      cases hs
      have e1 : Int64.ofInt x + Int64.ofInt z = Int64.ofInt (a64 (x + z)) := by rw [o64, Int64.ofInt_add]
      refine lv_ladd (x := Int64.ofInt x) (y := Int64.ofInt z) hx1 hb hdg ?_
      rw [e1]
      exact k H locs ls hL (hS.tail.tail.cons (v := .inr (.inl _)) (r64_a _)) hH hV
    · cases hs
  · unfold s_ll at hs
    split at hs
    · rename_i z x S2
      cases hs
      have e1 : Int64.ofInt x - Int64.ofInt z = Int64.ofInt (a64 (x - z)) := by rw [o64, Int64.ofInt_sub]
      refine lv_lsub (x := Int64.ofInt x) (y := Int64.ofInt z) hx1 hb hdg ?_
      rw [e1]
      exact k H locs ls hL (hS.tail.tail.cons (v := .inr (.inl _)) (r64_a _)) hH hV
    · cases hs
  · unfold s_ll at hs
    split at hs
    · rename_i z x S2
      cases hs
      have e1 : Int64.ofInt x * Int64.ofInt z = Int64.ofInt (a64 (x * z)) := by rw [o64, Int64.ofInt_mul]
      refine lv_lmul (x := Int64.ofInt x) (y := Int64.ofInt z) hx1 hb hdg ?_
      rw [e1]
      exact k H locs ls hL (hS.tail.tail.cons (v := .inr (.inl _)) (r64_a _)) hH hV
    · cases hs
  · unfold s_ll at hs
    split at hs
    · rename_i z x S2
      cases hs
      have e1 : Int64.ofInt x &&& Int64.ofInt z = Int64.ofInt (a_land x z) := (Int64.ofInt_toInt _).symm
      refine lv_land (x := Int64.ofInt x) (y := Int64.ofInt z) hx1 hb hdg ?_
      rw [e1]
      exact k H locs ls hL (hS.tail.tail.cons (v := .inr (.inl _)) (r64_of _)) hH hV
    · cases hs
  · unfold s_ll at hs
    split at hs
    · rename_i z x S2
      cases hs
      have e1 : Int64.ofInt x ||| Int64.ofInt z = Int64.ofInt (a_lor x z) := (Int64.ofInt_toInt _).symm
      refine lv_lor (x := Int64.ofInt x) (y := Int64.ofInt z) hx1 hb hdg ?_
      rw [e1]
      exact k H locs ls hL (hS.tail.tail.cons (v := .inr (.inl _)) (r64_of _)) hH hV
    · cases hs
  · unfold s_ldv at hs
    split at hs
    · rename_i z x S2
      split at hs
      · cases hs
      · rename_i hz
        cases hs
        have e1 : Int64.ofInt x / Int64.ofInt z = Int64.ofInt (a_ldiv x z) := (Int64.ofInt_toInt _).symm
        have hne : ¬ Int64.ofInt z = 0 := fun q => hz ((eq64 hS.head l0).mp q)
        refine lv_ldiv (x := Int64.ofInt x) (y := Int64.ofInt z) hx1 hb hdg hne ?_
        rw [e1]
        exact k H locs ls hL (hS.tail.tail.cons (v := .inr (.inl _)) (r64_of _)) hH hV
    · cases hs
  · unfold s_ldv at hs
    split at hs
    · rename_i z x S2
      split at hs
      · cases hs
      · rename_i hz
        cases hs
        have e1 : Int64.ofInt x - Int64.ofInt x / Int64.ofInt z * Int64.ofInt z = Int64.ofInt (a_lrem x z) := (Int64.ofInt_toInt _).symm
        have hne : ¬ Int64.ofInt z = 0 := fun q => hz ((eq64 hS.head l0).mp q)
        refine lv_lrem (x := Int64.ofInt x) (y := Int64.ofInt z) hx1 hb hdg hne ?_
        rw [e1]
        exact k H locs ls hL (hS.tail.tail.cons (v := .inr (.inl _)) (r64_of _)) hH hV
    · cases hs
  · unfold s_li at hs
    split at hs
    · rename_i z x S2
      cases hs
      have e1 : Int64.ofInt x <<< ((Int32.ofInt z).toInt64 &&& 63) = Int64.ofInt (a_lshl x z) := (Int64.ofInt_toInt _).symm
      exact lv_lshl (x := Int64.ofInt x) (y := Int32.ofInt z) hx1 hb hdg e1 (k H locs ls hL (hS.tail.tail.cons (v := .inr (.inl _)) (r64_of _)) hH hV)
    · cases hs
  · unfold s_li at hs
    split at hs
    · rename_i z x S2
      cases hs
      have e1 : Int64.ofInt x >>> ((Int32.ofInt z).toInt64 &&& 63) = Int64.ofInt (a_lshr x z) := (Int64.ofInt_toInt _).symm
      exact lv_lshr (x := Int64.ofInt x) (y := Int32.ofInt z) hx1 hb hdg e1 (k H locs ls hL (hS.tail.tail.cons (v := .inr (.inl _)) (r64_of _)) hH hV)
    · cases hs
  · unfold s_li at hs
    split at hs
    · rename_i z x S2
      cases hs
      have e1 : ((Int64.ofInt x).toUInt64 >>> ((Int32.ofInt z).toInt64.toUInt64 &&& Int64.toUInt64 63)).toInt64 = Int64.ofInt (a_lushr x z) := (Int64.ofInt_toInt _).symm
      exact lv_lushr (x := Int64.ofInt x) (y := Int32.ofInt z) hx1 hb hdg e1 (k H locs ls hL (hS.tail.tail.cons (v := .inr (.inl _)) (r64_of _)) hH hV)
    · cases hs
  · unfold s_lcmp at hs
    split at hs
    · rename_i z x S2
      cases hs
      refine W.lcmp (x := Int64.ofInt x) (y := Int64.ofInt z) hx1 hb hdg ?_
      rw [lcmp_eq hS.tail.head hS.head]
      exact k H locs ls hL (hS.tail.tail.cons (v := .inl _) (a_lcmp_r _ _)) hH hV
    · cases hs
  · unfold s_dup at hs
    split at hs
    · rename_i v S2
      split at hs
      · rename_i h1
        cases hs
        exact lv_dup (va := cv v) hx1 hb hdg (one_cat h1) (k H locs ls hL (fun w hw => (List.mem_cons.mp hw).elim (fun e => by rw [e]; exact hS v List.mem_cons_self) (fun hw => hS w hw)) hH hV)
      · cases hs
    · cases hs
  · unfold s_pop at hs
    split at hs
    · rename_i v S2
      split at hs
      · rename_i h1
        cases hs
        exact lv_pop (va := cv v) hx1 hb hdg (one_cat h1) (k H locs ls hL hS.tail hH hV)
      · cases hs
    · cases hs
  · unfold s_dup2 at hs
    split at hs
    · rename_i v w S2
      split at hs
      · rename_i h1
        simp only [Bool.and_eq_true] at h1
        cases hs
        refine lv_dup2_11 (va := cv v) (vb := cv w) hx1 hb hdg (one_cat h1.1) (one_cat h1.2) (k H locs ls hL (fun u hu => ?_) hH hV)
        rcases List.mem_cons.mp hu with e | hu
        · rw [e]; exact hS v List.mem_cons_self
        · rcases List.mem_cons.mp hu with e | hu
          · rw [e]; exact hS w (List.mem_cons_of_mem _ List.mem_cons_self)
          · exact hS u hu
      · cases hs
    · cases hs
  · rename_i cc off
    unfold s_if at hs
    split at hs
    · rename_i x S2
      have hx := hS.head
      have hz := r0
      cases ht : a_nxt pc off with
      | none => rw [ht] at hs; cases hs
      | some t =>
      rw [ht] at hs
      cases hs
      cases cc with
      | eq =>
        have kt : x = 0 → W p l e R s m args below meth c H locs (h.2.1 - z0) (h.2.2.1 - t0) Q (F0 m t ls (S'.map cv)) := fun q => by
          have e1 : a_cnd .eq x 0 = true := decide_eq_true q
          rw [e1] at k
          exact k H locs ls hL hS.tail hH hV
        have kf : ¬ (x = 0) → W p l e R s m args below meth c H locs (h.2.1 - z0) (h.2.2.1 - t0) Q (F0 m (pc + 3) ls (S'.map cv)) := fun q => by
          have e1 : a_cnd .eq x 0 = false := decide_eq_false q
          rw [e1] at k
          exact k H locs ls hL hS.tail hH hV
        exact lv_if_eq (x := Int32.ofInt x) hx1 hb hdg (a_nxt_eq ht) (fun q => kt ((eq32 hx hz).mp q)) (fun q => kf (fun w => q ((eq32 hx hz).mpr w)))
      | ne =>
        have kt : x ≠ 0 → W p l e R s m args below meth c H locs (h.2.1 - z0) (h.2.2.1 - t0) Q (F0 m t ls (S'.map cv)) := fun q => by
          have e1 : a_cnd .ne x 0 = true := decide_eq_true q
          rw [e1] at k
          exact k H locs ls hL hS.tail hH hV
        have kf : ¬ (x ≠ 0) → W p l e R s m args below meth c H locs (h.2.1 - z0) (h.2.2.1 - t0) Q (F0 m (pc + 3) ls (S'.map cv)) := fun q => by
          have e1 : a_cnd .ne x 0 = false := decide_eq_false q
          rw [e1] at k
          exact k H locs ls hL hS.tail hH hV
        exact lv_if_ne (x := Int32.ofInt x) hx1 hb hdg (a_nxt_eq ht) (fun q => kt ((not_congr (eq32 hx hz)).mp q)) (fun q => kf (fun w => w ((eq32 hx hz).mp q)))
      | lt =>
        have kt : x < 0 → W p l e R s m args below meth c H locs (h.2.1 - z0) (h.2.2.1 - t0) Q (F0 m t ls (S'.map cv)) := fun q => by
          have e1 : a_cnd .lt x 0 = true := decide_eq_true q
          rw [e1] at k
          exact k H locs ls hL hS.tail hH hV
        have kf : ¬ (x < 0) → W p l e R s m args below meth c H locs (h.2.1 - z0) (h.2.2.1 - t0) Q (F0 m (pc + 3) ls (S'.map cv)) := fun q => by
          have e1 : a_cnd .lt x 0 = false := decide_eq_false q
          rw [e1] at k
          exact k H locs ls hL hS.tail hH hV
        exact lv_if_lt (x := Int32.ofInt x) hx1 hb hdg (a_nxt_eq ht) (fun q => kt ((lt32 hx hz).mp q)) (fun q => kf (fun w => q ((lt32 hx hz).mpr w)))
      | ge =>
        have kt : 0 ≤ x → W p l e R s m args below meth c H locs (h.2.1 - z0) (h.2.2.1 - t0) Q (F0 m t ls (S'.map cv)) := fun q => by
          have e1 : a_cnd .ge x 0 = true := decide_eq_true q
          rw [e1] at k
          exact k H locs ls hL hS.tail hH hV
        have kf : ¬ (0 ≤ x) → W p l e R s m args below meth c H locs (h.2.1 - z0) (h.2.2.1 - t0) Q (F0 m (pc + 3) ls (S'.map cv)) := fun q => by
          have e1 : a_cnd .ge x 0 = false := decide_eq_false q
          rw [e1] at k
          exact k H locs ls hL hS.tail hH hV
        exact lv_if_ge (x := Int32.ofInt x) hx1 hb hdg (a_nxt_eq ht) (fun q => kt ((le32 hz hx).mp q)) (fun q => kf (fun w => q ((le32 hz hx).mpr w)))
      | gt =>
        have kt : 0 < x → W p l e R s m args below meth c H locs (h.2.1 - z0) (h.2.2.1 - t0) Q (F0 m t ls (S'.map cv)) := fun q => by
          have e1 : a_cnd .gt x 0 = true := decide_eq_true q
          rw [e1] at k
          exact k H locs ls hL hS.tail hH hV
        have kf : ¬ (0 < x) → W p l e R s m args below meth c H locs (h.2.1 - z0) (h.2.2.1 - t0) Q (F0 m (pc + 3) ls (S'.map cv)) := fun q => by
          have e1 : a_cnd .gt x 0 = false := decide_eq_false q
          rw [e1] at k
          exact k H locs ls hL hS.tail hH hV
        exact lv_if_gt (x := Int32.ofInt x) hx1 hb hdg (a_nxt_eq ht) (fun q => kt ((lt32 hz hx).mp q)) (fun q => kf (fun w => q ((lt32 hz hx).mpr w)))
      | le =>
        have kt : x ≤ 0 → W p l e R s m args below meth c H locs (h.2.1 - z0) (h.2.2.1 - t0) Q (F0 m t ls (S'.map cv)) := fun q => by
          have e1 : a_cnd .le x 0 = true := decide_eq_true q
          rw [e1] at k
          exact k H locs ls hL hS.tail hH hV
        have kf : ¬ (x ≤ 0) → W p l e R s m args below meth c H locs (h.2.1 - z0) (h.2.2.1 - t0) Q (F0 m (pc + 3) ls (S'.map cv)) := fun q => by
          have e1 : a_cnd .le x 0 = false := decide_eq_false q
          rw [e1] at k
          exact k H locs ls hL hS.tail hH hV
        exact lv_if_le (x := Int32.ofInt x) hx1 hb hdg (a_nxt_eq ht) (fun q => kt ((le32 hx hz).mp q)) (fun q => kf (fun w => q ((le32 hx hz).mpr w)))
    · cases hs
  · rename_i cc off
    unfold s_icmp at hs
    split at hs
    · rename_i z x S2
      have hx := hS.tail.head
      have hz := hS.head
      cases ht : a_nxt pc off with
      | none => rw [ht] at hs; cases hs
      | some t =>
      rw [ht] at hs
      cases hs
      cases cc with
      | eq =>
        have kt : x = z → W p l e R s m args below meth c H locs (h.2.1 - z0) (h.2.2.1 - t0) Q (F0 m t ls (S'.map cv)) := fun q => by
          have e1 : a_cnd .eq x z = true := decide_eq_true q
          rw [e1] at k
          exact k H locs ls hL hS.tail.tail hH hV
        have kf : ¬ (x = z) → W p l e R s m args below meth c H locs (h.2.1 - z0) (h.2.2.1 - t0) Q (F0 m (pc + 3) ls (S'.map cv)) := fun q => by
          have e1 : a_cnd .eq x z = false := decide_eq_false q
          rw [e1] at k
          exact k H locs ls hL hS.tail.tail hH hV
        exact lv_icmp_eq (x := Int32.ofInt x) (y := Int32.ofInt z) hx1 hb hdg (a_nxt_eq ht) (fun q => kt ((eq32 hx hz).mp q)) (fun q => kf (fun w => q ((eq32 hx hz).mpr w)))
      | ne =>
        have kt : x ≠ z → W p l e R s m args below meth c H locs (h.2.1 - z0) (h.2.2.1 - t0) Q (F0 m t ls (S'.map cv)) := fun q => by
          have e1 : a_cnd .ne x z = true := decide_eq_true q
          rw [e1] at k
          exact k H locs ls hL hS.tail.tail hH hV
        have kf : ¬ (x ≠ z) → W p l e R s m args below meth c H locs (h.2.1 - z0) (h.2.2.1 - t0) Q (F0 m (pc + 3) ls (S'.map cv)) := fun q => by
          have e1 : a_cnd .ne x z = false := decide_eq_false q
          rw [e1] at k
          exact k H locs ls hL hS.tail.tail hH hV
        exact lv_icmp_ne (x := Int32.ofInt x) (y := Int32.ofInt z) hx1 hb hdg (a_nxt_eq ht) (fun q => kt ((not_congr (eq32 hx hz)).mp q)) (fun q => kf (fun w => w ((eq32 hx hz).mp q)))
      | lt =>
        have kt : x < z → W p l e R s m args below meth c H locs (h.2.1 - z0) (h.2.2.1 - t0) Q (F0 m t ls (S'.map cv)) := fun q => by
          have e1 : a_cnd .lt x z = true := decide_eq_true q
          rw [e1] at k
          exact k H locs ls hL hS.tail.tail hH hV
        have kf : ¬ (x < z) → W p l e R s m args below meth c H locs (h.2.1 - z0) (h.2.2.1 - t0) Q (F0 m (pc + 3) ls (S'.map cv)) := fun q => by
          have e1 : a_cnd .lt x z = false := decide_eq_false q
          rw [e1] at k
          exact k H locs ls hL hS.tail.tail hH hV
        exact lv_icmp_lt (x := Int32.ofInt x) (y := Int32.ofInt z) hx1 hb hdg (a_nxt_eq ht) (fun q => kt ((lt32 hx hz).mp q)) (fun q => kf (fun w => q ((lt32 hx hz).mpr w)))
      | ge =>
        have kt : z ≤ x → W p l e R s m args below meth c H locs (h.2.1 - z0) (h.2.2.1 - t0) Q (F0 m t ls (S'.map cv)) := fun q => by
          have e1 : a_cnd .ge x z = true := decide_eq_true q
          rw [e1] at k
          exact k H locs ls hL hS.tail.tail hH hV
        have kf : ¬ (z ≤ x) → W p l e R s m args below meth c H locs (h.2.1 - z0) (h.2.2.1 - t0) Q (F0 m (pc + 3) ls (S'.map cv)) := fun q => by
          have e1 : a_cnd .ge x z = false := decide_eq_false q
          rw [e1] at k
          exact k H locs ls hL hS.tail.tail hH hV
        exact lv_icmp_ge (x := Int32.ofInt x) (y := Int32.ofInt z) hx1 hb hdg (a_nxt_eq ht) (fun q => kt ((le32 hz hx).mp q)) (fun q => kf (fun w => q ((le32 hz hx).mpr w)))
      | gt =>
        have kt : z < x → W p l e R s m args below meth c H locs (h.2.1 - z0) (h.2.2.1 - t0) Q (F0 m t ls (S'.map cv)) := fun q => by
          have e1 : a_cnd .gt x z = true := decide_eq_true q
          rw [e1] at k
          exact k H locs ls hL hS.tail.tail hH hV
        have kf : ¬ (z < x) → W p l e R s m args below meth c H locs (h.2.1 - z0) (h.2.2.1 - t0) Q (F0 m (pc + 3) ls (S'.map cv)) := fun q => by
          have e1 : a_cnd .gt x z = false := decide_eq_false q
          rw [e1] at k
          exact k H locs ls hL hS.tail.tail hH hV
        exact lv_icmp_gt (x := Int32.ofInt x) (y := Int32.ofInt z) hx1 hb hdg (a_nxt_eq ht) (fun q => kt ((lt32 hz hx).mp q)) (fun q => kf (fun w => q ((lt32 hz hx).mpr w)))
      | le =>
        have kt : x ≤ z → W p l e R s m args below meth c H locs (h.2.1 - z0) (h.2.2.1 - t0) Q (F0 m t ls (S'.map cv)) := fun q => by
          have e1 : a_cnd .le x z = true := decide_eq_true q
          rw [e1] at k
          exact k H locs ls hL hS.tail.tail hH hV
        have kf : ¬ (x ≤ z) → W p l e R s m args below meth c H locs (h.2.1 - z0) (h.2.2.1 - t0) Q (F0 m (pc + 3) ls (S'.map cv)) := fun q => by
          have e1 : a_cnd .le x z = false := decide_eq_false q
          rw [e1] at k
          exact k H locs ls hL hS.tail.tail hH hV
        exact lv_icmp_le (x := Int32.ofInt x) (y := Int32.ofInt z) hx1 hb hdg (a_nxt_eq ht) (fun q => kt ((le32 hx hz).mp q)) (fun q => kf (fun w => q ((le32 hx hz).mpr w)))
    · cases hs
  · rename_i off
    unfold s_goto at hs
    cases ht : a_nxt pc off with
    | none => rw [ht] at hs; cases hs
    | some t =>
      rw [ht] at hs
      cases hs
      exact lv_goto hx1 hb hdg (a_nxt_eq ht) (k H locs ls hL hS hH hV)
  · rename_i _ dflt lo hi2 offs
    unfold s_tab at hs
    split at hs
    · rename_i x S2
      have hx := toI (show r32 x from hS.head)
      split at hs
      · rename_i hxx
        cases ht : a_nxt pc dflt with
        | none => rw [ht] at hs; cases hs
        | some t =>
          rw [ht] at hs
          cases hs
          exact lv_tableOut (x := Int32.ofInt x) hx1 hb hdg (by rw [hx]; exact hxx) (a_nxt_eq ht) (k H locs ls hL hS.tail hH hV)
      · rename_i hxx
        split at hs
        · rename_i off ho
          cases ht : a_nxt pc off with
          | none => rw [ht] at hs; cases hs
          | some t =>
            rw [ht] at hs
            cases hs
            exact lv_tableIn (x := Int32.ofInt x) hx1 hb hdg (by rw [hx]; exact fun q => hxx (Or.inl q)) (by rw [hx]; exact fun q => hxx (Or.inr q)) (by rw [hx]; exact ho) (a_nxt_eq ht) (k H locs ls hL hS.tail hH hV)
        · cases hs
    · cases hs
  · cases hs
end SimA
