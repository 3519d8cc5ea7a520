/-! From AM to the true machine, 8: returns; a callee's exception, caught or handed on. -/
def exR (s : State) : Prop := ∀ k k' : Nat, k ≤ 2 → k' ≤ 2 → ∃ c c' : ClassId, s.vm.findClass (exN k) = some c ∧ s.vm.findClass (exN k') = some c' ∧ s.vm.assignable c c' = decide (k = k')
theorem exR.warm {s U : State} (h : exR s) (hW : s.WarmedH U.vm) : exR U := by
  intro k k' h1 h2
  obtain ⟨c, c', e1, e2, e3⟩ := h k k' h1 h2
  exact ⟨c, c', by rw [hW.alike.findClass]; exact e1, by rw [hW.alike.findClass]; exact e2, by rw [hW.alike.assignable]; exact e3⟩
/-- what the search for a handler gives, and the tables behind it -/
def fdT (e : Env) (s : State) (f : JFrame) (a : Addr) (h : Handler) (vm' : Vm) : Prop :=
  ∀ (Q : Handler → Pre) (E : CtlPost) (d : Bool) (acts : List Action), wp (findHandler f a) Q E e d acts s ↔ Q h d acts (s.setVm vm')
theorem fg_link {Q : Handler → Pre} {E : CtlPost} {e : Env} {d : Bool} {acts : List Action} {s : State} {f : JFrame} {a : Addr} {x : ExceptionTableEntry} {t : List ExceptionTableEntry} {c : ClassId} {cell : Cell} (hx : covers x f.pc = true) (h0 : x.catchType ≠ 0)
    (hl : s.vm.ClassLinks e.platform f.method.cls x.catchType c) (hcell : s.heap[a]? = some cell) (hobj : ∀ k, cell.vm ≠ .statics k)
    (hk : ∃ k, s.vm.classes[cell.cls]? = some k) (hc : ∃ k, s.vm.classes[c]? = some k) :
    wp (findHandler.go f a (x :: t)) Q E e d acts s ↔ if s.vm.assignable cell.cls c = true then Q (.found x.handlerPc) d acts (s.setVm (s.vm.noted f.method.cls x.catchType (.cls c))) else wp (findHandler.go f a t) Q E e d acts (s.setVm (s.vm.noted f.method.cls x.catchType (.cls c))) := by
  simp only [covers] at hx
  obtain ⟨ha, ht⟩ := (resolveClass_links e.toSetting hl).op (op := VmOp.resolveClass f.method.cls x.catchType) rfl
  have hal : s.vm.Alike (s.vm.noted f.method.cls x.catchType (.cls c)) := (Vm.Alike.refl s.vm).noted _ _ _
  obtain ⟨k1, hk1⟩ := hk
  obtain ⟨k2, hk2⟩ := hc
  obtain ⟨k1', hk1', -⟩ := hal.2.2 _ _ hk1
  obtain ⟨k2', hk2', -⟩ := hal.2.2 _ _ hk2
  cases hfit : s.vm.assignable cell.cls c with
  | true =>
    have hfit' : (s.vm.noted f.method.cls x.catchType (.cls c)).assignable cell.cls c = true := by rw [hal.assignable]; exact hfit
    simp [findHandler.go, hx, h0, ha, ht, hcell, hobj, hk1', hk2', hfit', VmOp.dirties, VmOp.acts]
  | false =>
    have hfit' : (s.vm.noted f.method.cls x.catchType (.cls c)).assignable cell.cls c = false := by rw [hal.assignable]; exact hfit
    simp [findHandler.go, hx, h0, ha, ht, hcell, hobj, hk1', hk2', hfit', VmOp.dirties, VmOp.acts]
def hRes (hs : List (Nat × Nat × Nat × Nat)) (k : Nat) : Handler := match hs.find? (fun q => hk q.2.2.2 == k) with
  | some q => .found q.2.2.1
  | none => .none
theorem fg_all {e : Env} (hpl : e.platform.magicAccessors = ({} : Platform).magicAccessors) {sB : State} {args : Array Value} {f : JFrame} {a : Addr} {k : Nat} {cell : Cell} (hk2 : k ≤ 2) (hown : sB.vm.findClass "TarYardLaw" = some f.method.cls) (hR : exR sB) (hfk : sB.vm.findClass (exN k) = some cell.cls) (hobj : ∀ k, cell.vm ≠ .statics k) (hcls : ∃ kk, sB.vm.classes[cell.cls]? = some kk) :
    ∀ (hs : List (Nat × Nat × Nat × Nat)) (s : State), sB.WarmedH s.vm → s.heap[a]? = some cell → (∀ q ∈ hs, covers ⟨q.1, q.2.1, q.2.2.1, q.2.2.2⟩ f.pc = true ∧ q.2.2.2 ≠ 0 ∧ hk q.2.2.2 ≤ 2 ∧ (Cond.classLink "TarYardLaw" q.2.2.2 (exN (hk q.2.2.2))).before args sB = true) →
      ∃ vm' : Vm, sB.WarmedH vm' ∧ ∀ (Q : Handler → Pre) (E : CtlPost) (d : Bool) (acts : List Action), wp (findHandler.go f a (tableOf hs)) Q E e d acts s ↔ Q (hRes hs k) d acts (s.setVm vm') := by
  intro hs
  induction hs with
  | nil =>
    intro s hW hcell _
    refine ⟨s.vm, hW, fun Q E d acts => ?_⟩
    rw [State.setVm_self]
    exact W.findHandler_go_nil
  | cons q hs ih =>
    intro s hW hcell hq
    obtain ⟨g1, g2, g3, g4⟩ := hq q List.mem_cons_self
    obtain ⟨c', hc', hcl⟩ := Cond.classLink_spec hown g4 e.platform hpl
    obtain ⟨dk, _, _, kt, hd, _, _, _, _, hkt, _, hopen⟩ := hcl.here
    have hcl₀ := hW.classLinks hcl
    have hW' : sB.WarmedH (s.vm.noted f.method.cls q.2.2.2 (.cls c')) := hW.noted hd hopen (State.rightAt_cls hcl)
    obtain ⟨kt', hkt', -⟩ := hW.alike.2.2 _ _ hkt
    obtain ⟨kc, hkc⟩ := hcls
    obtain ⟨kc', hkc', -⟩ := hW.alike.2.2 _ _ hkc
    obtain ⟨vm', hV, hrest⟩ := ih (s.setVm (s.vm.noted f.method.cls q.2.2.2 (.cls c'))) hW' hcell (fun z hz => hq z (List.mem_cons_of_mem _ hz))
    have has : s.vm.assignable cell.cls c' = decide (k = hk q.2.2.2) := by
      obtain ⟨c1, c2, e1, e2, e3⟩ := hR k (hk q.2.2.2) hk2 g3
      cases e1.symm.trans hfk
      cases e2.symm.trans hc'
      rw [hW.alike.assignable]
      exact e3
    by_cases hkk : k = hk q.2.2.2
    · refine ⟨_, hW', fun Q E d acts => ?_⟩
      show wp (findHandler.go f a (⟨q.1, q.2.1, q.2.2.1, q.2.2.2⟩ :: tableOf hs)) Q E e d acts s ↔ _
      rw [fg_link g1 g2 hcl₀ hcell hobj ⟨_, hkc'⟩ ⟨_, hkt'⟩, if_pos (by rw [has]; exact decide_eq_true hkk)]
      have : hRes (q :: hs) k = .found q.2.2.1 := by
        unfold hRes
        rw [List.find?_cons_of_pos (by simp [hkk])]
      rw [this]
    · refine ⟨vm', hV, fun Q E d acts => ?_⟩
      show wp (findHandler.go f a (⟨q.1, q.2.1, q.2.2.1, q.2.2.2⟩ :: tableOf hs)) Q E e d acts s ↔ _
      rw [fg_link g1 g2 hcl₀ hcell hobj ⟨_, hkc'⟩ ⟨_, hkt'⟩, if_neg (by rw [has]; simpa using hkk)]
      have : hRes (q :: hs) k = hRes hs k := by
        unfold hRes
        rw [List.find?_cons_of_neg (by simpa using fun h => hkk h.symm)]
      rw [this]
      exact hrest Q E d acts
theorem fr_sv (u : State) (vm' : Vm) (F G : List Frame) : ((u.setFrames F).setVm vm').setFrames G = (u.setVm vm').setFrames G := by
  have h1 : (u.setFrames F).setVm vm' = (u.setVm vm').setFrames F := rfl
  rw [h1, State.setFrames_setFrames]
theorem ctch {tb : Tables} {e : Env} {s target : State} {g : JFrame} {c : Code} {below : List Frame} {a : Addr} (h : At s g.method c below) {pc : Nat} {vm' : Vm}
    (hfind : fdT e ((s.setTop g).pushFrame (.throwing a)) g a (.found pc) vm') (hrest : Steps tb e below ((s.setVm vm').setTop { g with pc := pc, stack := [.ref a] }) target) :
    Steps tb e below ((s.setTop g).pushFrame (.throwing a)) target := by
  obtain ⟨hgo, hw⟩ := h.throwing a
  refine Steps.head hgo hw ?_
  have h1 : (stepThrowing e ((s.setTop g).pushFrame (.throwing a)) a (.java g :: s.frames.tail)).Is ((((s.setTop g).pushFrame (.throwing a)).setVm vm').setFrames (.java { g with pc := pc, stack := [.ref a] } :: s.frames.tail)) [] := by
    simp only [stepThrowing, searchFrame, vmDo]
    generalize hr : Sem.go _ e false [] ((s.setTop g).pushFrame (.throwing a)) = res
    obtain ⟨as, rfl, ha⟩ := Sem.eq_ok_of hr (a := Handler.found pc) (s' := ((s.setTop g).pushFrame (.throwing a)).setVm vm') (acts' := []) (by simp [hfind _ _ _ _])
    exact ⟨rfl, ha⟩
  rw [stepThread_throwing (frames_entered h.top _), h1.1]
  obtain ⟨g₀, hg⟩ := Option.isSome_iff_exists.mp h.top
  obtain ⟨r, hr⟩ := State.topJava?_eq_some.mp hg
  have hr' : (s.setVm vm').frames = .java g₀ :: r := hr
  rw [State.setTop_of_frames _ hr'] at hrest
  rw [hr, List.tail_cons, State.pushFrame, fr_sv, State.setTop_of_frames _ hr, fr_sv]
  exact hrest
theorem lvs {tb : Tables} {e : Env} {s target : State} {g : JFrame} {c : Code} {below : List Frame} {a : Addr} (h : At s g.method c below) {vm' : Vm} {meth : Method} (hm : vm'.method? g.method = some meth) (hl : meth.locks = false) (hlocked : g.locked = none) (hentered : g.entered = [])
    (hfind : fdT e ((s.setTop g).pushFrame (.throwing a)) g a .none vm') (hrest : Steps tb e below ((s.setVm vm').setFrames (.throwing a :: s.frames.tail)) target) :
    Steps tb e below ((s.setTop g).pushFrame (.throwing a)) target := by
  obtain ⟨hgo, hw⟩ := h.throwing a
  refine Steps.head hgo hw ?_
  have h1 : (stepThrowing e ((s.setTop g).pushFrame (.throwing a)) a (.java g :: s.frames.tail)).Is ((((s.setTop g).pushFrame (.throwing a)).setVm vm').setFrames (.throwing a :: s.frames.tail)) [] := by
    simp only [stepThrowing, searchFrame, vmDo]
    generalize hr : Sem.go _ e false [] ((s.setTop g).pushFrame (.throwing a)) = res
    obtain ⟨as, rfl, ha⟩ := Sem.eq_ok_of hr (a := Handler.none) (s' := ((s.setTop g).pushFrame (.throwing a)).setVm vm') (acts' := []) (by cases hp : e.platform.frameOwnsMonitors <;> simp [hfind _ _ _ _, hm, hl, hlocked, hentered, hp, leaveIfLocked])
    exact ⟨rfl, ha⟩
  rw [stepThread_throwing (frames_entered h.top _), h1.1]
  obtain ⟨g₀, hg⟩ := Option.isSome_iff_exists.mp h.top
  obtain ⟨r, hr⟩ := State.topJava?_eq_some.mp hg
  rw [State.pushFrame, fr_sv, State.setTop_of_frames _ hr, fr_sv]
  exact hrest
