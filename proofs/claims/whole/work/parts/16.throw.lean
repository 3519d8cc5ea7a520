/-! From AM to the true machine, 7: an exception is made and thrown. -/
theorem ls_keep {A A' : Array Value} {u U : State} {C n d : String} (hvm : U.vm = u.vm) (hq : ∀ q : Nat, q < u.heap.size → U.heap[q]? = u.heap[q]?) (h : (Cond.laysStatic C n d).before A u = true) : (Cond.laysStatic C n d).before A' U = true := by
  obtain ⟨c, k, i, f, a, cell, hc, hi, hst, ha, hcell, hs, hcls, hlt, hty⟩ := Cond.laysStatic_spec h
  have hff : U.fieldFound? C n d = u.fieldFound? C n d := by unfold State.fieldFound?; rw [hvm]
  have hcell' : U.heap[a]? = some cell := by rw [hq a (Array.getElem?_eq_some_iff.mp hcell).1]; exact hcell
  simp [Cond.before, Cond.holds, Cond.value, hvm, hff, hc, hi, ha, hcell', hst, hs, hcls, hlt, hty]
theorem sv_keep {A A' : Array Value} {u U : State} {C n d : String} {v : Value} (hvm : U.vm = u.vm) (hq : ∀ q : Nat, q < u.heap.size → U.heap[q]? = u.heap[q]?) (h : (Term.static C n d).eval A u none [] u = some v) : (Term.static C n d).eval A' U none [] U = some v := by
  have hff : U.fieldFound? C n d = u.fieldFound? C n d := by unfold State.fieldFound?; rw [hvm]
  have hfn : U.fieldNamed? C n d true = u.fieldNamed? C n d true := by unfold State.fieldNamed?; rw [hff]
  simp only [Term.eval, hfn] at h ⊢
  cases h1 : u.fieldNamed? C n d true with
  | none => rw [h1] at h; cases h
  | some r =>
    obtain ⟨c, k, sl⟩ := r
    rw [h1] at h
    cases h2 : k.statics with
    | none => simp [h2] at h
    | some a =>
      cases h3 : u.heap[a]? with
      | none => simp [h2, h3] at h
      | some cell =>
        have h4 : U.heap[a]? = some cell := by rw [hq a (Array.getElem?_eq_some_iff.mp h3).1]; exact h3
        simp only [h2, h3, h4, Option.bind_eq_bind, Option.bind_some] at h ⊢
        exact h
theorem sr_keep {A A' : Array Value} {u U : State} {C n d : String} (hvm : U.vm = u.vm) (hq : ∀ q : Nat, q < u.heap.size → U.heap[q]? = u.heap[q]?) (h : (Cond.isRef (.static C n d)).before A u = true) : (Cond.isRef (.static C n d)).before A' U = true := by
  cases hv : (Term.static C n d).eval A u none [] u with
  | none => simp [Cond.before, Cond.holds, Cond.value, hv] at h
  | some w =>
    simp only [Cond.before, Cond.holds, Cond.value, hv] at h ⊢
    rw [sv_keep (A' := A') hvm hq hv]
    exact h
theorem own_split {own : String} {ic : Nat} {X : String} {a : Jvm.Cond} (h : a ∈ Bundle.ownAtoms own ic X exUp) : a = .methodLink own ic (Bundle.initS X) ∨ a ∈ ownT X := by
  unfold Bundle.ownAtoms at h
  rcases List.mem_append.mp h with h | h
  · exact Or.inr (List.mem_append.mpr (Or.inl h))
  · rcases List.mem_cons.mp h with h | h
    · exact Or.inl h
    · refine Or.inr (List.mem_append.mpr (Or.inr ?_))
      unfold Bundle.ownAtoms
      rw [show ownA X = Bundle.throwableAtoms ++ Bundle.throwableSAtoms ++ Bundle.chainSAtoms X exUp from rfl, List.drop_left]
      exact h
theorem exA {k : Nat} (hk : k ≤ 2) : ∀ a ∈ ownT (exN k), (a = exU1 ∨ a = exU2 ∨ a ∈ lw_tbl) ∧ (a.onTables = true ∨ a = exU1 ∨ a = exU2 ∨ a = .laysStatic Bundle.tN "UNASSIGNED_STACK" Bundle.steD ∨ a = .laysStatic Bundle.tN "SUPPRESSED_SENTINEL" Bundle.listD) := by
  match k, hk with
  | 0, _ => exact fun a ha => ⟨exA0 a ha, exO0 a ha⟩
  | 1, _ => exact fun a ha => ⟨exA1 a ha, exO1 a ha⟩
  | 2, _ => exact fun a ha => ⟨exA2 a ha, exO2 a ha⟩
  | k + 3, h => exact absurd h (by omega)
theorem exI {k : Nat} (hk : k ≤ 2) : ∃ q : Nat, lw_tbl[q]? = some (.initialized (exN k)) := by
  match k, hk with
  | 0, _ => exact ⟨_, exI0⟩
  | 1, _ => exact ⟨_, exI1⟩
  | 2, _ => exact ⟨_, exI2⟩
  | k + 3, h => exact absurd h (by omega)
theorem exFit {k : Nat} (hk : k ≤ 2) : Bundle.fit (exN k) = true := by
  match k, hk with
  | 0, _ => decide +kernel
  | 1, _ => decide +kernel
  | 2, _ => decide +kernel
  | k + 3, h => exact absurd h (by omega)
/-- the words that a throw needs, at a state behind the law's start -/
theorem own_at {s0 s : State} {a0 args : Array Value} (hB : ∀ w ∈ lw_tbl, w.before a0 s0 = true) (hU1 : exU1.before a0 s0 = true) (hU2 : exU2.before a0 s0 = true) (hC : ct s0 s) {k ic p3 : Nat} (hk : k ≤ 2) (hm : lw_tbl[p3]? = some (.methodLink "TarYard" ic (Bundle.initS (exN k)))) : ∀ a ∈ Bundle.ownAtoms "TarYard" ic (exN k) exUp, a.before args s = true := by
  intro a ha
  have hf := Bundle.ownAtoms_keepsFace a ha
  rcases own_split ha with rfl | h
  · exact wd hB hC hm rfl
  · obtain ⟨h1, h2⟩ := exA hk a h
    have h0 : a.before a0 s0 = true := by
      rcases h1 with rfl | rfl | h
      · exact hU1
      · exact hU2
      · exact hB a h
    have h3 : a.before a0 (s0.setVm s.vm) = true := Cond.before_shiftedFace (State.Shifted.of_warmed hC.1) a hf h0
    rcases h2 with h2 | rfl | rfl | rfl | rfl
    · exact va_tabs (u := s0.setVm s.vm) h2 rfl h3
    · exact sr_keep (u := s0.setVm s.vm) rfl hC.2 h3
    · exact sr_keep (u := s0.setVm s.vm) rfl hC.2 h3
    · exact ls_keep (u := s0.setVm s.vm) rfl hC.2 h3
    · exact ls_keep (u := s0.setVm s.vm) rfl hC.2 h3
/-- the walk's start laid anew at where it stands -/
theorem st_rb {p : Program} {l : Launch} {e : Env} {R : Room} {s : State} {m : MethodId} {args : Array Value} {below : List Frame} {meth : Method} {c : Code} {T : State} {locs : List Loc} {cells slots n k : Nat} (X : Stand p l e R s m args below meth c T locs cells slots) (hc : cells + n ≤ R.cells) (hs : slots + k ≤ R.slots) :
    Stand p l e { R with cells := n, slots := k } (T.setFrames (.invoking m args :: below)) m args below meth c T [] 0 0 := by
  obtain ⟨g0, hfr⟩ := X.frames_eq
  have hcur := State.cur_lt_of_frames hfr
  have hF : (T.setFrames (.invoking m args :: below)).frames = .invoking m args :: below := State.frames_setFrames _ hcur
  have hm : (T.setFrames (.invoking m args :: below)).vm.method? m = some meth := X.method'
  have hroom : (T.setFrames (.invoking m args :: below)).hasRoom e.platform { R with cells := n, slots := k } = true := by
    obtain ⟨r1, r2, r3, r4⟩ := State.hasRoom_stack X.room
    have r5 := State.hasRoom_real X.room
    have h := X.room
    simp only [State.hasRoom, Bool.and_eq_true, decide_eq_true_eq] at h
    rw [State.localsInUse_invoking X.frames X.method X.code] at r3 r4 r5
    rw [X.frames, List.length_cons] at r1 r2
    have hU : (T.setFrames (.invoking m args :: below)).localsInUse = stackWeight below + vmFrameWords + (c.maxLocals + 11) := State.localsInUse_invoking hF hm X.code
    simp only [State.hasRoom, Bool.and_eq_true, decide_eq_true_eq, hF, hU, List.length_cons, State.stackLimits_setFrames, State.stackBytes_setFrames, X.limits, X.bytes]
    refine ⟨⟨⟨⟨by omega, by omega, by omega, by omega, by omega, h.1.1.1.2.2.2.2.2⟩, ?_⟩, ?_⟩, X.book⟩
    · have h1 := h.1.1.2
      have h2 := X.heapSize
      show T.heap.size + n ≤ e.platform.maxCells
      omega
    · have h1 := h.1.2
      have h2 := X.used
      show T.slotsUsed + k ≤ e.platform.maxSlots
      omega
  have hh : (T.setFrames (.invoking m args :: below)).hears m below = true := by
    have h := X.hears
    have h1 : ∀ z, (T.setFrames (.invoking m args :: below)).code? z = s.code? z := fun z => by
      rw [State.code?_eq, State.code?_eq]
      show (T.vm.method? z).bind _ = _
      rw [X.warmed.alike.method?]
    have h2 : (T.setFrames (.invoking m args :: below)).vm.method? m = s.vm.method? m := by
      show T.vm.method? m = _
      rw [X.warmed.alike.method?]
    cases hb : below with
    | nil => rw [hb] at h h2; simp only [State.hears] at h ⊢; rw [h2]; exact h
    | cons f r =>
      rw [hb] at h h1 h2
      cases f <;> simp only [State.hears] at h ⊢ <;> first | (rw [h1]; exact h) | (rw [h2]; exact h) | exact h
  obtain ⟨t, ht, -⟩ := State.frames_cons hfr
  obtain ⟨t', ht', -⟩ := State.frames_cons hF
  refine ⟨X.admits, X.cas, X.clock, hF, hroom, hh, hm, X.code, X.here, X.tail, State.WarmedH.refl _, by rw [State.stackLimits_setFrames], by rw [State.stackBytes_setFrames], ?_⟩
  have h := (State.sameButNew.refl (T.setFrames (.invoking m args :: below)) ht').setFrames T.frames (State.cur_lt_of_frames hF)
  rw [State.setFrames_setFrames, State.setFrames_self ht] at h
  exact h
/-- cells that the frame keeps are as they were -/
theorem sbn_out {s t : State} {L : List Loc} {n k : Nat} {A : Nat → Prop} (h : s.sameButNew t L n k) (hL : ∀ x ∈ L, A x.base) : ∀ q : Nat, q < s.heap.size → ¬ A q → t.heap[q]? = s.heap[q]? := by
  intro q hq hA
  obtain ⟨c, hc⟩ : ∃ c, s.heap[q]? = some c := ⟨_, Array.getElem?_eq_getElem hq⟩
  obtain ⟨c', hc', he, -, hk⟩ := h.2.2.2.2.2 q c hc
  have hs : c'.slots = c.slots := Array.ext_getElem? fun i => hk i fun hm => hA (hL _ hm)
  rw [hc', hc, he, hs]
/-- how an outcome of AM stands to one of the machine's -/
def oc (r : AO) (o : Outcome) (t : State) : Prop := match r with
  | .inl v => o = .returned (v.map cv) ∧ ∀ x : AV, v = some x → okv x ∧ x.isSome = true
  | .inr (k, x) => k ≤ 2 ∧ o = .threw x ∧ ∃ ce : Cell, t.heap[x]? = some ce ∧ t.vm.findClass (exN k) = some ce.cls ∧ ce.vm.isStatics = false
/-- the end of an invocation -/
def En (D : va_G) (dA : Nat → ClassId) (s : State) (below : List Frame) (z0 t0 : Nat) (r : AO × AH) (t : State) : Prop :=
  ∃ o : Outcome, t.status = .running ∧ Ended t below o ∧ s.WarmedH t.vm ∧ (∃ L : List Loc, s.sameButNew ({ t with vm := s.vm } : State) L (r.2.2.1 - z0) (r.2.2.2.1 - t0) ∧ ∀ q ∈ L, r.2.2.2.2.1 ≤ q.base) ∧ HR D dA s r.2 t.heap ∧ oc r.1 o t
theorem ct_at {s0 s : State} {b : Nat} {H : Heap} {locs : List Loc} {U : State} (hC : ct s0 s) (hb : s0.heap.size ≤ b) (hW : s.WarmedH U.vm) (hV : va_S (fun q => b ≤ q) s.heap H locs) (hU : U.heap = H) : ct s0 U := by
  refine ⟨State.WarmedH.trans hC.1 hW, fun q hq => ?_⟩
  rw [hU]
  have h1 := hC.2 q hq
  have h2 : q < s.heap.size := by
    rw [Array.getElem?_eq_getElem hq] at h1
    exact (Array.getElem?_eq_some_iff.mp h1).1
  rw [hV.2.1 q h2 (by omega)]
  exact h1
section SimE
variable {s0 : State} {a0 : Array Value} {p : Program} {l : Launch} {e : Env} {R : Room} {s : State} {m : MethodId} {args : Array Value} {below : List Frame} {meth : Method} {c : Code} {Q : State → Prop} {D : va_G} {dA : Nat → ClassId} {z0 t0 : Nat}
variable {y : AY} {d pc pc' len : Nat} {L S L' S' : List AV} {h h' : AH}
set_option maxHeartbeats 4000000 in
theorem sm_throw {idx : Nat} {r : AO × AH} (hx : cx s0 D dA p s m meth c y) (hB : ∀ w ∈ lw_tbl, w.before a0 s0 = true) (hU1 : exU1.before a0 s0 = true) (hU2 : exU2.before a0 s0 = true) (htr : ∀ e : Env, l.admits e → e.platform.stackTraces = false) (hE : (mf y).1 ≠ 4 → ∀ (pc : Nat), ∀ x ∈ c.exceptionTable.toList, covers x pc = false) (hl : L.length = y.2.2.2.1) (hbase : s0.heap.size ≤ h.2.2.2.1) (hz : z0 ≤ h.2.1 ∧ t0 ≤ h.2.2.1) (hR : 6 ≤ R.frames ∧ 100 ≤ R.locals) (hR2 : h.2.1 + 1 - z0 ≤ R.cells ∧ h.2.2.1 + 6 - t0 ≤ R.slots) (hd : tb y pc = some (.new idx, 3)) (hs : fin d y (.new idx) 3 pc S h = some r) (hQ : ∀ t, En D dA s below z0 t0 r t → Q t) : SW p l e R s m args below meth c Q D dA z0 t0 pc L S h := by
  obtain ⟨hx1, hb, hml, hown, hy, hret, hlk, -, hC, hK⟩ := hx
  intro H locs ls hL hS hH hV
  have hsz : ls.size = c.maxLocals := by rw [hL.1.1, hl, hml]
  simp only [fin] at hs
  split at hs
  case h_2 => cases hs
  rename_i k hk
  split at hs
  case isFalse => cases hs
  rename_i hw
  cases hs
  obtain ⟨i1, i2, hk2, ia, ib, ic, tx, p1, p2, p3, d1, d2, d3, d4, d5, w1, w2, w3⟩ := tX_ok hk
  obtain ⟨hc7, hm4⟩ : y.2.1 = 7 ∧ (mf y).1 ≠ 4 := by
    rcases ex_cls y hy with h | h | h
    · omega
    · omega
    · exact h
  have hE := hE hm4
  rw [hc7] at hown
  intro T hT X
  have X0 := st_rb (n := 1) (k := 6) X (by omega) (by omega)
  generalize hs' : T.setFrames (.invoking m args :: below) = s' at X0
  have hvm' : s'.vm = T.vm := by rw [← hs']; rfl
  have hhp' : s'.heap = T.heap := by rw [← hs']; rfl
  have hC' : ct s0 s' := ct_at hC hbase (U := s') (by rw [hvm']; exact X.warmed) hV (by rw [hhp', hT])
  have hown' : s'.vm.findClass "TarYard" = some m.cls := by rw [hvm', X.warmed.alike.findClass]; exact hown
  have hat := own_at (args := args) hB hU1 hU2 hC' hk2 w3
  obtain ⟨p4, w4⟩ := exI hk2
  have hwt := wt_cv hS
  obtain ⟨vm₁, cX, kX, hfX, hkX, -, -, X₁, st1⟩ := X0.newCold hx1 (own := "TarYard") (C := exN k) (index := ia) (n := 6) hown' (wd hB hC' w1 rfl) (hat (.instantiable (exN k) 6) (by simp [Bundle.ownAtoms])) (wd hB hC' w4 rfl)
    (g := F0 m pc ls (S.map cv)) rfl (by rw [hb]; exact d1) (by simp) (by simp)
  generalize hT1 : (T.setVm vm₁).pushCell { cls := cX, slots := kX.instanceTypes.map defaultValue, vm := .none } = T1 at X₁ st1
  have hcellA : T1.heap[T.heap.size]? = some (freshCell cX kX) := by rw [← hT1]; exact State.heap_pushCell_size _ _
  have hown0 : s0.vm.findClass "TarYard" = some m.cls := by rw [← hC'.1.alike.findClass]; exact hown'
  obtain ⟨k9, cf9, i9, sa, -, -, -, -, -, hev⟩ := Cond.stringRef_spec hown0 (hB _ (List.mem_of_getElem? w2))
  have hR9 : vk_R "TarYard" ib tx sa s' := vk_R.warm hC'.1 (vk_R.of (hB _ (List.mem_of_getElem? w2)) hev)
  have st2 := X₁.ldcString hx1 (own := "TarYard") (text := tx) (index := ib) (a := sa) hown' hR9.1 hR9.2 (g := F0 m (pc + 4) ls (.ref T.heap.size :: .ref T.heap.size :: S.map cv)) rfl (by rw [hb]; exact d3)
  obtain ⟨U, hsteps, hrun, hend, hW, hsame, ce, hce, K⟩ := X₁.ctorThrowS hx1 (htr e X.admits) (own := "TarYard") (cls := exN k) (names := exUp) (ic := ic) hown' (exFit hk2) (by decide +kernel) hat (fun y hy => by cases hy) hfX hkX hcellA (by rw [hhp']; exact Nat.le_refl _) (msg := .ref sa) rfl
    (g := F0 m (pc + 6) ls (.ref sa :: .ref T.heap.size :: .ref T.heap.size :: S.map cv)) rfl hsz rfl rfl (rest := S.map cv) rfl (by rw [hb]; exact d4) (by rw [hb]; exact d5) (hE _) (by simp [exUp]; omega)
    (by
      simp only [List.map_cons, List.sum_cons, hwt, exUp, List.length_cons, List.length_nil]
      show 2 * 0 + (1 + a_wt S) + _ ≤ R.locals
      omega) hlk
  have hsz1 : U.heap.size = H.size + 1 := by
    have h1 : U.heap.size ≤ s'.heap.size + (0 + 1) := hsame.2.2.1
    have h2 := (Array.getElem?_eq_some_iff.mp hce).1
    rw [hhp', hT] at h1
    rw [hT] at h2
    omega
  have hkeep : ∀ q : Nat, q < H.size → U.heap[q]? = H[q]? := fun q hq => by
    have := sbn_out (A := fun _ => False) hsame (fun _ h => by cases h) q (by rw [hhp', hT]; exact hq) (fun h => h)
    rw [hhp', hT] at this
    exact this
  refine ⟨U, st1 _ ?_, hQ U ⟨.threw T.heap.size, hrun, hend, State.WarmedH.trans X.warmed (by have h9 := hW; rw [← hs'] at h9; exact h9), ⟨locs, ?_, hV.2.2⟩, ?_, ?_⟩⟩
  · show Steps p.tables e below (T1.setTop (F0 m (pc + 3) ls (.ref T.heap.size :: S.map cv))) U
    have d2' : decode c.code (pc + 3) = .ok (.dup, 1) := by rw [hb]; exact d2
    jvm_step X₁.here [X₁.here.top, hx1, d2', Value.category]
    exact st2 _ hsteps
  · have h8 := hsame
    rw [← hs'] at h8
    have h9 : T.sameButNew ({ U with vm := T.vm } : State) [] (0 + 1) (0 + 6) := by
      obtain ⟨q1, q2⟩ := h8
      exact ⟨by rw [State.setFrames_setFrames] at q1; exact q1, q2⟩
    have h10 := X.same.trans (h9.setVm s.vm)
    rw [List.append_nil] at h10
    refine h10.weaken (fun _ h _ => h) ?_ ?_
    · show h.2.1 - z0 + (0 + 1) ≤ h.2.1 + 1 - z0
      omega
    · show h.2.2.1 - t0 + (0 + 6) ≤ h.2.2.1 + tThr - t0
      unfold tThr
      omega
  · refine ⟨by rw [hsz1, hH.1]; rfl, Nat.le_succ_of_le hH.2.1, fun b e1 he => ?_⟩
    obtain ⟨g1, g2, g3⟩ := hH.2.2 b e1 he
    exact ⟨g1, fun hbb => (g2 hbb).kept (hkeep b (g2 hbb).lt), g3⟩
  · refine ⟨hk2, by rw [hT, hH.1], ce, by rw [← hH.1, ← hT]; exact hce, ?_, by rw [K.vm]; rfl⟩
    rw [hW.alike.findClass]
    exact K.cls
end SimE
