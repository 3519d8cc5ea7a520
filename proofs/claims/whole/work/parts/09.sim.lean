/-! From AM to the true machine, 2: the heap; instructions that make no call. -/
theorem lookup_in {l : List (List (Nat × Jvm.ClassFile.Instr × Nat))} {pc : Nat} {r : Jvm.ClassFile.Instr × Nat} (h : (l.getD (pc / 16) []).lookup pc = some r) : (pc, r) ∈ l.flatten := by
  have h1 := lookup_mem h
  rw [List.getD_eq_getElem?_getD] at h1
  cases hk : l[pc / 16]? with
  | none => rw [hk] at h1; simp at h1
  | some c =>
    rw [hk] at h1
    exact List.mem_flatten.mpr ⟨c, List.mem_of_getElem? hk, by simpa using h1⟩
theorem dcd {y : AY} (hy : y ∈ allY) {pc : Nat} {i : Jvm.ClassFile.Instr} {len : Nat} (h : tb y pc = some (i, len)) : decode (bt y) pc = .ok (i, len) := dc_all y hy _ (lookup_in h)
/-- where a state stands to the one at the law's start -/
def ct (s0 s : State) : Prop := s0.WarmedH s.vm ∧ ∀ q : Nat, q < s0.heap.size → s.heap[q]? = s0.heap[q]?
theorem wd {s0 s : State} {a0 args : Array Value} (hB : ∀ w ∈ lw_tbl, w.before a0 s0 = true) (hC : ct s0 s) {p : Nat} {w : Jvm.Cond} (h : lw_tbl[p]? = some w) (hk : (w.onTables && w.keepsH) = true) : w.before args s = true := by
  simp only [Bool.and_eq_true] at hk
  have h1 := Cond.onTables_warmH (T := s) (args' := args) hC.1 hk.1 hk.2 (hB w (List.mem_of_getElem? h))
  rwa [State.setVm_self] at h1
def arT (k : Nat) : FieldType := match k with
  | 0 => .int
  | 1 => .byte
  | 2 => .long
  | k + 3 => .object (cNm k)
def okE (e : AE) : Prop := match e with
  | .inl (_, fs) => ∀ v ∈ fs, okv v ∧ v.isSome = true
  | .inr (k, n, .inl f) => n < 2147483648 ∧ ((k = 0 ∧ ∀ j, r32 (f j)) ∨ (k = 1 ∧ ∀ j, r8 (f j)) ∨ (k = 2 ∧ ∀ j, r64 (f j)))
  | .inr (k, n, .inr _) => n < 2147483648 ∧ k = 3
def cA (k : Nat) (f : Nat → Int) : (Nat → Int32) ⊕ (Nat → Int64) ⊕ (Nat → UInt32) ⊕ (Nat → UInt64) ⊕ (Nat → Option Nat) := match k with
  | 2 => .inr (.inl (fun j => Int64.ofInt (f j)))
  | _ => .inl (fun j => Int32.ofInt (f j))
def ce (dA : Nat → ClassId) (e : AE) : va_E := match e with
  | .inl (ci, fs) => .inr (ci, fs.map cv)
  | .inr (k, n, .inl f) => .inl (dA k, n, cA k f)
  | .inr (k, n, .inr f) => .inl (dA k, n, .inr (.inr (.inr (.inr f))))
/-- an array of before the law's start, which nobody writes -/
def sta (s : State) (b a : Nat) (e : AE) : Prop := match e with
  | .inr (k, n, .inl f) => k ≤ 1 ∧ va_T (arT k) a n (fun j => .int (Int32.ofInt (f j))) (fun q => b ≤ q) s s.heap
  | _ => False
def HR (D : va_G) (dA : Nat → ClassId) (s : State) (h : AH) (H : Heap) : Prop := H.size = h.2.1 ∧ h.2.2.2.1 ≤ h.2.1 ∧ ∀ (a : Nat) (e : AE), h.1 a = some e → okE e ∧ (h.2.2.2.1 ≤ a → va_at D vcl (a, ce dA e) H) ∧ (a < h.2.2.2.1 → sta s h.2.2.2.1 a e)
def tyl (dA : Nat → ClassId) : List (ClassId × FieldType) := [(dA 0, arT 0), (dA 1, arT 1), (dA 2, arT 2), (dA 3, arT 3)]
theorem tyl_at {dA : Nat → ClassId} {k : Nat} (hk : k ≤ 3) : (tyl dA)[k]? = some (dA k, arT k) := by
  match k, hk with
  | 0, _ => rfl
  | 1, _ => rfl
  | 2, _ => rfl
  | 3, _ => rfl
  | k + 4, h => exact absurd h (by omega)
theorem HR.set {D : va_G} {dA : Nat → ClassId} {s : State} {h : AH} {H H1 : Heap} {a : Nat} {e1 : AE} (hH : HR D dA s h H) (hb : h.2.2.2.1 ≤ a) (ho : okE e1) (hv : va_at D vcl (a, ce dA e1) H1) (hz : H1.size = H.size) (hq : ∀ q : Nat, q ≠ a → H1[q]? = H[q]?) : HR D dA s (hput h a e1) H1 := by
  obtain ⟨h1, h2, h3⟩ := hH
  refine ⟨hz.trans h1, h2, fun b e he => ?_⟩
  simp only [hput, hup] at he
  split at he
  · rename_i hba
    cases he
    subst hba
    exact ⟨ho, fun _ => hv, fun hlt => absurd hb (Nat.not_le.mpr hlt)⟩
  · rename_i hba
    obtain ⟨g1, g2, g3⟩ := h3 b e he
    exact ⟨g1, fun hbb => (g2 hbb).kept (hq b hba), g3⟩
theorem HR.push {D : va_G} {dA : Nat → ClassId} {s : State} {h : AH} {H H1 : Heap} {e1 : AE} {n : Nat} (hH : HR D dA s h H) (ho : okE e1) (hv : va_at D vcl (h.2.1, ce dA e1) H1) (hz : H1.size = H.size + 1) (hq : ∀ q : Nat, q < H.size → H1[q]? = H[q]?) : HR D dA s (hnew h e1 n) H1 := by
  obtain ⟨h1, h2, h3⟩ := hH
  refine ⟨by rw [hz, h1]; rfl, Nat.le_succ_of_le h2, fun b e he => ?_⟩
  simp only [hnew, hup] at he
  split at he
  · rename_i hba
    cases he
    subst hba
    exact ⟨ho, fun _ => hv, fun hlt => absurd h2 (Nat.not_le.mpr hlt)⟩
  · obtain ⟨g1, g2, g3⟩ := h3 b e he
    exact ⟨g1, fun hbb => (g2 hbb).kept (hq b (g2 hbb).lt), g3⟩
/-- the goal of the simulation at a place of AM -/
def SW (p : Program) (l : Launch) (e : Env) (R : Room) (s : State) (m : MethodId) (args : Array Value) (below : List Frame) (meth : Method) (c : Code) (Q : State → Prop) (D : va_G) (dA : Nat → ClassId) (z0 t0 : Nat) (pc : Nat) (L S : List AV) (h : AH) : Prop :=
  ∀ (H : Heap) (locs : List Loc) (ls : Array Slot), LR ls L → SK S → HR D dA s h H → va_S (fun q => h.2.2.2.1 ≤ q) s.heap H locs → W p l e R s m args below meth c H locs (h.2.1 - z0) (h.2.2.1 - t0) Q (F0 m pc ls (S.map cv))
/-- what is known inside an invocation of y -/
def cx (s0 : State) (D : va_G) (dA : Nat → ClassId) (p : Program) (s : State) (m : MethodId) (meth : Method) (c : Code) (y : AY) : Prop :=
  p.tables.exec = Jvm.exec ∧ c.code = bt y ∧ c.maxLocals = y.2.2.2.1 ∧ s.vm.findClass (cNm y.2.1) = some m.cls ∧ y ∈ allY ∧ meth.sig.returnType = y.2.2.2.2.1 ∧ meth.locks = false ∧ (y.2.2.2.2.2 = true → meth.name = "<init>") ∧ ct s0 s ∧ va_K D vcl (tyl dA) s
section SimA
variable {s0 : State} {a0 : Array Value} {p : Program} {l : Launch} {e : Env} {R : Room} {s : State} {m : MethodId} {args : Array Value} {below : List Frame} {meth : Method} {c : Code} {Q : State → Prop} {D : va_G} {dA : Nat → ClassId} {z0 t0 : Nat}
variable {y : AY} {pc pc' len : Nat} {L S L' S' : List AV} {h h' : AH}
theorem sm_push {i : Jvm.ClassFile.Instr} {v : Int ⊕ (Int ⊕ Option Nat)} (hv : okv (some v)) (hw : ∀ (H : Heap) (locs : List Loc) (ls : Array Slot) (rest : List Value), W p l e R s m args below meth c H locs (h.2.1 - z0) (h.2.2.1 - t0) Q (F0 m pc' ls (cv (some v) :: rest)) → W p l e R s m args below meth c H locs (h.2.1 - z0) (h.2.2.1 - t0) Q (F0 m pc ls rest)) (k : SW p l e R s m args below meth c Q D dA z0 t0 pc' L (some v :: S) h) : SW p l e R s m args below meth c Q D dA z0 t0 pc L S h :=
  fun H locs ls hL hS hH hV => hw H locs ls (S.map cv) (k H locs ls hL (hS.cons hv) hH hV)
theorem sm_simple (hx : cx s0 D dA p s m meth c y) (hB : ∀ w ∈ lw_tbl, w.before a0 s0 = true) {i : Jvm.ClassFile.Instr} (hd : tb y pc = some (i, len)) (hl : L.length = y.2.2.2.1)
    (hi : match i with
      | .getfield _ | .putfield _ | .getstatic _ | .new _ | .newarray _ | .anewarray _ | .iaload | .baload | .laload | .aaload | .iastore | .bastore | .lastore | .aastore | .arraylength => False
      | _ => True)
    (hs : stp y i len pc L S h = some (pc', L', S', h')) (k : SW p l e R s m args below meth c Q D dA z0 t0 pc' L' S' h') : SW p l e R s m args below meth c Q D dA z0 t0 pc L S h := by
  obtain ⟨hx1, hb, hml, hown, hy, -, -, -, hC, -⟩ := hx
  have hdg := dcd hy hd
  intro H locs ls hL hS hH hV
  have hsz : ls.size = L.length := hL.1.1
  unfold stp at hs
  split at hs <;> first | (exact absurd hi id) | skip
  -- iconst
  · rename_i n
    split at hs
    · rename_i hn
      cases hs
      exact lv_iconst (v := Int32.ofInt n) hx1 hb hdg rfl (k H locs ls hL (hS.cons (v := .inl n) ⟨by omega, by omega⟩) hH hV)
    · cases hs
  -- bipush
  · rename_i n
    split at hs
    · rename_i hn
      cases hs
      refine lv_bipush (v := Int32.ofInt n) hx1 hb hdg ?_ (k H locs ls hL (hS.cons (v := .inl n) ⟨by omega, by omega⟩) hH hV)
      rw [Int8.toInt32_ofInt (by simpa using hn.1) (by simpa using hn.2)]
    · cases hs
  -- sipush
  · rename_i n
    split at hs
    · rename_i hn
      cases hs
      refine lv_sipush (v := Int32.ofInt n) hx1 hb hdg ?_ (k H locs ls hL (hS.cons (v := .inl n) ⟨by omega, by omega⟩) hH hV)
      rw [Int16.toInt32_ofInt (by simpa using hn.1) (by simpa using hn.2)]
    · cases hs
  -- lconst
  · rename_i n
    cases hs
    refine lv_lconst (v := Int64.ofInt ((n : Nat) : Int)) hx1 hb hdg ?_ (k H locs ls hL (hS.cons (v := .inr (.inl ((n : Nat) : Int))) ⟨by omega, by omega⟩) hH hV)
    rw [Int64.ofInt_eq_ofNat]
  -- ldc
  · rename_i x
    cases hv : tI y.2.1 x with
    | none => rw [hv] at hs; cases hs
    | some v =>
      rw [hv] at hs
      cases hs
      obtain ⟨hr, q, hq⟩ := tI_ok hv
      exact lv_ldc hx1 hb hown (wd hB hC hq rfl) hdg (k H locs ls hL (hS.cons (v := .inl v) hr) hH hV)
  -- ldc2
  · rename_i x
    cases hv : tJ y.2.1 x with
    | none => rw [hv] at hs; cases hs
    | some v =>
      rw [hv] at hs
      cases hs
      obtain ⟨hr, q, hq⟩ := tJ_ok hv
      exact lv_ldc2 hx1 hb hown (wd hB hC hq rfl) hdg (k H locs ls hL (hS.cons (v := .inr (.inl v)) hr) hH hV)
  all_goals sorry
end SimA
