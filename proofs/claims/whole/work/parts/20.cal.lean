/-! From AM to the true machine, 10: a call. -/
def cw (y : AY) : Jvm.Cond := if (mf y).1 = 4 then .codeWith (nm y) (bt y) y.2.2.2.1 y.2.2.2.2.1 (hdl y.1) else .code (nm y) (bt y) y.2.2.2.1 y.2.2.2.2.1
def mk4 (y : AY) : Prop := (mf y).1 = 0 ∨ (mf y).1 = 1 ∨ (mf y).1 = 2 ∨ (mf y).1 = 4
theorem cw_at {y : AY} (hy : y ∈ allY) (hk : mk4 y) : lw_tbl[(mf y).2.1]? = some (cw y) := by
  unfold cw
  by_cases h4 : (mf y).1 = 4
  · rw [if_pos h4]
    exact ((hw_all y hy).1 h4).2.1
  · rw [if_neg h4]
    refine (mf_all y hy).2.2.2.2.2.2.1 ?_
    rcases hk with h | h | h | h
    · exact Or.inl h
    · exact Or.inr (Or.inl h)
    · exact Or.inr (Or.inr h)
    · exact absurd h h4
theorem cw_ok (y : AY) : ((cw y).onTables && (cw y).keepsH) = true := by
  unfold cw
  split <;> rfl
def Tbl (y : AY) (c : Code) : Prop := ((mf y).1 ≠ 4 → ∀ (pc : Nat), ∀ x ∈ c.exceptionTable.toList, covers x pc = false) ∧ ((mf y).1 = 4 → c.exceptionTable.toList = tableOf (hdl y.1))
theorem cw_spec {y : AY} {s : State} {args : Array Value} {m : MethodId} (hn : s.methodNamed? (nm y) = some m) (h : (cw y).before args s = true) : ∃ meth c, s.vm.method? m = some meth ∧ meth.code = some c ∧ c.code = bt y ∧ c.maxLocals = y.2.2.2.1 ∧ meth.sig.returnType = y.2.2.2.2.1 ∧ meth.locks = false ∧ parseMethodDescriptor (nm y).desc = some meth.sig ∧ Tbl y c := by
  unfold cw at h
  by_cases h4 : (mf y).1 = 4
  · rw [if_pos h4] at h
    obtain ⟨m', meth, c, h1, h2, h3, h5, h6, h7, h8, h9, h10⟩ := Cond.codeWith_spec h
    cases hn.symm.trans h1
    exact ⟨meth, c, h2, h3, h5, h6, h8, h9, h10, fun q => absurd h4 q, fun _ => by rw [← h7]; exact (table_eq _).symm⟩
  · rw [if_neg h4] at h
    obtain ⟨meth, c, h2, h3, h5, h6, h8, h9, h7, h10⟩ := Cond.code_spec hn h
    exact ⟨meth, c, h2, h3, h5, h6, h8, h9, h10, fun _ pc => covers_of_empty h7 pc, fun q => absurd q h4⟩
theorem HR.at {D : va_G} {dA : Nat → ClassId} {s U : State} {h : AH} {H : Heap} (hH : HR D dA s h H) (hvm : s.vm.Alike U.vm) (hq : ∀ a : Nat, a < s.heap.size → ¬ h.2.2.2.1 ≤ a → U.heap[a]? = s.heap[a]?) : HR D dA U h H := by
  refine ⟨hH.1, hH.2.1, fun a e he => ?_⟩
  obtain ⟨g1, g2, g3⟩ := hH.2.2 a e he
  refine ⟨g1, g2, fun hlt => ?_⟩
  have g4 := g3 hlt
  unfold sta at g4 ⊢
  split at g4
  · exact ⟨g4.1, (g4.2.moved hvm).kept hq⟩
  · exact g4.elim
theorem ml_le : ∀ y ∈ allY, y.2.2.2.1 ≤ 40 := by decide +kernel
section SimG
variable {s0 : State} {a0 : Array Value} {l : Launch} {D : va_G} {dA : Nat → ClassId}
/-- what AM does with n steps of fuel, the machine does -/
def SimAt (s0 : State) (l : Launch) (D : va_G) (dA : Nat → ClassId) (n : Nat) : Prop :=
  ∀ (d : Nat) (y : AY) (pc : Nat) (L S : List AV) (h : AH) (r : AO × AH), go n d y pc L S h = some r → ∀ (p : Program) (e : Env) (R : Room) (s : State) (m : MethodId) (args : Array Value) (below : List Frame) (meth : Method) (c : Code) (z0 t0 : Nat),
    cx s0 D dA p s m meth c y → Tbl y c → L.length = y.2.2.2.1 → s0.heap.size ≤ h.2.2.2.1 → h.2.2.2.1 ≤ s.heap.size → va_Z "TarYard$Tape" "MARK" "[B" (.ref h.2.2.2.2) (fun q => h.2.2.2.1 ≤ q) s s.heap →
    z0 ≤ h.2.1 ∧ t0 ≤ h.2.2.1 → d + 1 ≤ R.frames ∧ 36 * d + 56 ≤ R.locals → r.2.2.1 - z0 ≤ R.cells ∧ r.2.2.2.1 - t0 ≤ R.slots → SW p l e R s m args below meth c (En D dA s below z0 t0 r) D dA z0 t0 pc L S h
theorem metx {n d : Nat} {z : AY} {As : List AV} {h : AH} {r : AO × AH} (ih : SimAt s0 l D dA n) (hg : go n d z 0 (ent z As) [] h = some r) (hz : z ∈ allY) (hA : SK As) (hl : (a_spr As).length ≤ z.2.2.2.1) (hb : s0.heap.size ≤ h.2.2.2.1) :
    MetX l (nm z) (cw z) { frames := d + 1, cells := r.2.2.1 - h.2.1, slots := r.2.2.2.1 - h.2.2.1, locals := 36 * d + 56 } (fun args s => args = (As.map cv).toArray ∧ HR D dA s h s.heap ∧ ct s0 s ∧ va_K D vcl (tyl dA) s ∧ va_Z "TarYard$Tape" "MARK" "[B" (.ref h.2.2.2.2) (fun q => h.2.2.2.1 ≤ q) s s.heap) (fun st o t => HR D dA st r.2 t.heap ∧ oc r.1 o t) (fun q => h.2.2.2.1 ≤ q) := by
  refine MetFree.of_bodyS (code := bt z) (maxLocals := z.2.2.2.1) (ret := z.2.2.2.2.1) (mf_all z hz).2.1 ?_ ?_
  · intro args s m h hn
    obtain ⟨meth, c, h1, h2, h3, h4, h5, h6, -, -⟩ := cw_spec hn (atoms_spec (ws := [cw z]) h _ List.mem_cons_self)
    exact ⟨meth, c, h1, h2, h3, h4, h5, h6⟩
  · intro p e s m args below meth c s₁ B hml hP _
    obtain ⟨ha, hH, hC, hK, hZ⟩ := hP
    subst ha
    have hcw : (cw z).before _ s = true := atoms_spec (ws := [cw z]) B.pre _ List.mem_cons_self
    obtain ⟨meth', c', h1, h2, h3, h4, h5, h6, h7, h8⟩ := cw_spec B.named hcw
    cases B.method.symm.trans h1
    cases (Stand.of_body B).code.symm.trans h2
    have hh0 : s₁.heap = s.heap := by rw [B.state]; rfl
    have hfc : s.vm.findClass (cNm z.2.1) = some m.cls := by
      rw [← (mf_all z hz).1]
      exact findClass_of_methodNamed B.named
    have hle := (LR.entry (z := z) hA hl)
    have hlen : (ent z As).length = z.2.2.2.1 := by
      unfold ent
      simp
      omega
    have k := ih d z 0 (ent z As) [] h r hg p e (headSpec [cw z] { frames := d + 1, cells := r.2.2.1 - h.2.1, slots := r.2.2.2.1 - h.2.2.1, locals := 36 * d + 56 }).room s m (As.map cv).toArray below meth c h.2.1 h.2.2.1
      ⟨B.exec, B.bytes, hml, hfc, hz, B.returns, B.notSynchronized, fun hi => (name_of_methodNamed B.named B.method).1.trans ((mf_all z hz).2.2.2.2.1.mpr hi), hC, hK⟩ h8 hlen hb (by rw [hH.1]; exact hH.2.1) hZ ⟨Nat.le_refl _, Nat.le_refl _⟩
      ⟨Nat.le_refl _, Nat.le_refl _⟩ ⟨Nat.le_refl _, Nat.le_refl _⟩
      s.heap [] _ hle.2 (fun v hv => by cases hv) hH va_S.rf
    rw [Nat.sub_self, Nat.sub_self] at k
    obtain ⟨t, a1, o, b1, b2, b3, ⟨L, b4, b5⟩, b6, b7⟩ := k s₁ hh0 (Stand.of_body B)
    have a1 : Steps p.tables e below (s₁.setTop (entryFrame m (As.map cv).toArray z.2.2.2.1)) t := by rw [lg_entry_eq]; exact a1
    have hm := (go_mor _ _ _ _ _ _ _ _ hg).2.2
    refine ⟨t, o, a1, b1, b2, ⟨b6, b7⟩, b3, L, b4, fun q hq => ?_⟩
    have := b5 q hq
    rw [hm] at this
    exact this
section
variable {p : Program} {e : Env} {R : Room} {s : State} {m : MethodId} {args : Array Value} {below : List Frame} {meth : Method} {c : Code} {z0 t0 : Nat}
variable {y z : AY} {n d pc : Nat} {L S As rest : List AV} {h : AH} {r r1 : AO × AH}
set_option maxHeartbeats 4000000 in
theorem cal_tail (ih : SimAt s0 l D dA n) (hB : ∀ w ∈ lw_tbl, w.before a0 s0 = true) (hXR : exR s0) (hx : cx s0 D dA p s m meth c y) (hTb : Tbl y c) (hl : L.length = y.2.2.2.1) (hbase : s0.heap.size ≤ h.2.2.2.1) (hbs : h.2.2.2.1 ≤ s.heap.size) (hZ : va_Z "TarYard$Tape" "MARK" "[B" (.ref h.2.2.2.2) (fun q => h.2.2.2.1 ≤ q) s s.heap) (hz : z0 ≤ h.2.1 ∧ t0 ≤ h.2.2.1) (hR : d + 1 ≤ R.frames ∧ 36 * d + 56 ≤ R.locals) (hR2 : r.2.2.1 - z0 ≤ R.cells ∧ r.2.2.2.1 - t0 ≤ R.slots)
    {i : Jvm.ClassFile.Instr} (hd : tb y pc = some (i, 3)) (hinv : isInv i = true) (hzA : z ∈ allY) (hk4 : mk4 z) (hle : lv z ≤ d) (hg : go n (d - lv z) z 0 (ent z As) [] h = some r1) (ha : aft (go n) d y pc L rest r1 = some r) (hw : a_wt rest ≤ 8) (hspr : (a_spr As).length ≤ z.2.2.2.1)
    {H : Heap} {locs : List Loc} {ls : Array Slot} (hL : LR ls L) (hSr : SK rest) (hA : SK As) (hH : HR D dA s h H) (hV : va_S (fun q => h.2.2.2.1 ≤ q) s.heap H locs) {T : State} (hT : T.heap = H) {mk : MethodId} (X1 : Stand p l e R s m args below meth c T locs (h.2.1 - z0) (h.2.2.1 - t0)) (hn : T.methodNamed? (nm z) = some mk) :
    ∃ t, Steps p.tables e below (doInvoke e (T.setTop (F0 m pc ls (rest.map cv))) [] mk (As.map cv).toArray).1 t ∧ En D dA s below z0 t0 r t := by
  have hx0 := hx
  obtain ⟨hx1, hb, hml, hown, hy, hret, hlk, -, hC, hK⟩ := hx
  have hdg : decode c.code pc = .ok (i, 3) := by rw [hb]; exact dcd hy hd
  have hC1 : ct s0 T := ct_at hC hbase X1.warmed hV hT
  have hcw : (cw z).before (As.map cv).toArray T = true := wd hB hC1 (cw_at hzA hk4) (cw_ok z)
  obtain ⟨methY, cY, hmY, hcY, -, hlY, -, -, -, -⟩ := cw_spec hn hcw
  have hm3 : (mf z).1 ≠ 3 := by
    rcases hk4 with h | h | h | h <;> omega
  have hini : (Cond.initialized (nm z).cls).before (As.map cv).toArray T = true := wd hB hC1 ((mf_all z hzA).2.2.2.2.2.2.2.2.2.2 hm3) rfl
  have hM := metx ih hg hzA hA hspr hbase
  have mo1 := go_mor _ _ _ _ _ _ _ _ hg
  have mo2 : mor r1.2 r.2 := by
    obtain ⟨o, h2⟩ := r1
    rcases o with (_ | v) | ⟨k, x⟩
    · exact go_mor _ _ _ _ _ _ _ _ ha
    · exact go_mor _ _ _ _ _ _ _ _ ha
    · simp only [aft] at ha
      cases ht : tH y.1 k with
      | some t => simp only [ht] at ha; exact go_mor _ _ _ _ _ _ _ _ ha
      | none => simp only [ht] at ha; cases ha; exact mor.rf
  have hlv : z.2.2.2.1 ≤ 36 * lv z - 19 := by
    have := ml_le z hzA
    unfold lv
    split <;> omega
  have hlv1 : 1 ≤ lv z := by
    unfold lv
    split <;> omega
  have m1 := mo1.1
  have m2 := mo1.2.1
  have m3 := mo2.1
  have m4 := mo2.2.1
  have hst9 : (T.calling (F0 m pc ls (rest.map cv)) mk (As.map cv).toArray) = T.setFrames (.invoking mk (As.map cv).toArray :: .java (F0 m pc ls (rest.map cv)) :: T.frames.tail) := State.calling_eq X1.here.top _ _ _
  have hvm9 : (T.calling (F0 m pc ls (rest.map cv)) mk (As.map cv).toArray).vm = T.vm := by rw [hst9]; rfl
  have hhp9 : (T.calling (F0 m pc ls (rest.map cv)) mk (As.map cv).toArray).heap = H := by rw [hst9]; exact hT
  have hq9 : ∀ a : Nat, a < s.heap.size → ¬ h.2.2.2.1 ≤ a → (T.calling (F0 m pc ls (rest.map cv)) mk (As.map cv).toArray).heap[a]? = s.heap[a]? := fun a h1 h2 => by rw [hhp9]; exact hV.2.1 a h1 h2
  have hal9 : s.vm.Alike (T.calling (F0 m pc ls (rest.map cv)) mk (As.map cv).toArray).vm := by rw [hvm9]; exact X1.warmed.alike
  obtain ⟨o, t, L2, ⟨hHR, hoc⟩, hfree, X2, hst⟩ := callX hM X1 (g := F0 m pc ls (rest.map cv)) rfl (by rw [hml, ← hl]; exact hL.1.1) hdg (by show 2 * 0 + ((rest.map cv).map fun v => v.category).sum ≤ 8; rw [wt_cv hSr]; omega) hn hmY hcY hlY hcw hini
    (by show d - lv z + 1 + 1 ≤ R.frames; omega) (by show 8 + (z.2.2.2.1 + 11) + (36 * (d - lv z) + 56) ≤ R.locals; omega) (by show h.2.1 - z0 + (r1.2.2.1 - h.2.1) ≤ R.cells; omega) (by show h.2.2.1 - t0 + (r1.2.2.2.1 - h.2.2.1) ≤ R.slots; omega)
    ⟨rfl, by rw [hhp9]; exact hH.at hal9 hq9, ⟨by rw [hvm9]; exact hC1.1, by rw [hhp9, ← hT]; exact hC1.2⟩, hK.moved hal9, (hZ.moved hal9).kept hq9⟩
  have hc2 : h.2.1 - z0 + (r1.2.2.1 - h.2.1) = r1.2.2.1 - z0 := by omega
  have hs2 : h.2.2.1 - t0 + (r1.2.2.2.1 - h.2.2.1) = r1.2.2.2.1 - t0 := by omega
  have X2 : Stand p l e R s m args below meth c (bk T t) (locs ++ L2) (r1.2.2.1 - z0) (r1.2.2.2.1 - t0) := by
    have := X2
    rw [hc2, hs2] at this
    exact this
  have hbm : r1.2.2.2.2 = h.2.2.2 := mo1.2.2
  have hHs : HR D dA s r1.2 t.heap := by
    refine hHR.at hal9.symm fun a h1 h2 => ?_
    rw [hhp9]
    rw [hbm] at h2
    exact (hV.2.1 a (by omega) h2).symm
  have hfr : ∀ q ∈ locs ++ L2, h.2.2.2.1 ≤ q.base := fun q hq => by
    rcases List.mem_append.mp hq with h | h
    · exact hV.2.2 q h
    · exact hfree q h
  have hV2 : va_S (fun q => r1.2.2.2.2.1 ≤ q) s.heap t.heap (locs ++ L2) := by
    rw [hbm]
    exact ⟨X2.same.2.1, sbn_out (t := (bk T t).setVm s.vm) X2.same hfr, hfr⟩
  have hZ2 : va_Z "TarYard$Tape" "MARK" "[B" (.ref r1.2.2.2.2.2) (fun q => r1.2.2.2.2.1 ≤ q) s s.heap := by rw [hbm]; exact hZ
  have hz2 : z0 ≤ r1.2.2.1 ∧ t0 ≤ r1.2.2.2.1 := ⟨by omega, by omega⟩
  have hb2 : s0.heap.size ≤ r1.2.2.2.2.1 := by rw [hbm]; exact hbase
  have hbs2 : r1.2.2.2.2.1 ≤ s.heap.size := by rw [hbm]; exact hbs
  obtain ⟨ro, h2⟩ := r1
  rcases ro with (_ | v) | ⟨k, x⟩
  · obtain ⟨ho, -⟩ := hoc
    subst ho
    obtain ⟨t2, a1, b1⟩ := ih d y (pc + 3) L rest h2 r ha p e R s m args below meth c z0 t0 hx0 hTb hl hb2 hbs2 hZ2 hz2 hR hR2 t.heap (locs ++ L2) ls hL hSr hHs hV2 (bk T t) rfl X2
    exact ⟨t2, hst.trans a1, b1⟩
  · obtain ⟨ho, hov⟩ := hoc
    subst ho
    have hSv : SK (v :: rest) := fun w hw => (List.mem_cons.mp hw).elim (fun e => by rw [e]; exact hov v rfl) (fun hw => hSr w hw)
    obtain ⟨t2, a1, b1⟩ := ih d y (pc + 3) L (v :: rest) h2 r ha p e R s m args below meth c z0 t0 hx0 hTb hl hb2 hbs2 hZ2 hz2 hR hR2 t.heap (locs ++ L2) ls hL hSv hHs hV2 (bk T t) rfl X2
    exact ⟨t2, hst.trans a1, b1⟩
  · obtain ⟨hk2, ho, ce, hce, hcn, hcs⟩ := hoc
    subst ho
    have hst : Steps p.tables e below (doInvoke e (T.setTop (F0 m pc ls (rest.map cv))) [] mk (As.map cv).toArray).1 (((bk T t).setTop (F0 m pc ls (rest.map cv))).pushFrame (.throwing x)) := hst
    have hin := (lookup_in (l := y.2.2.1) hd)
    simp only [aft] at ha
    by_cases h4 : (mf y).1 = 4
    · obtain ⟨hc9, -, hq1, hq2, hq3⟩ := (hw_all y hy).1 h4
      have hown9 : s.vm.findClass "TarYardLaw" = some m.cls := by rw [hc9] at hown; exact hown
      have hWt : s.WarmedH t.vm := X2.warmed
      have hfk : s.vm.findClass (exN k) = some ce.cls := by rw [← hWt.alike.findClass]; exact hcn
      have hpl : e.platform.magicAccessors = ({} : Platform).magicAccessors := by rw [X2.admits.platform]
      obtain ⟨vm', hW', hfd⟩ := fg_all (e := e) hpl (sB := s) (args := args) (f := F0 m pc ls (rest.map cv)) (a := x) (k := k) (cell := ce) hk2 hown9 (hXR.warm hC.1) hfk (VmData.ne_statics_of hcs) (Vm.classAt_of_findClass hfk) (hdl y.1) (((bk T t).setTop (F0 m pc ls (rest.map cv))).pushFrame (.throwing x)) (by rw [Stand.throwing_vm]; exact hWt) (by rw [Stand.throwing_heap]; exact hce)
        (fun q hq => by
          obtain ⟨u1, u2⟩ := hq1 q hq
          have u3 := hq2 _ hin hinv q hq
          refine ⟨?_, ?_, ?_, ?_⟩
          · show (decide (q.1 ≤ pc) && decide (pc < q.2.1)) = true
            rw [u1]
            simpa using u3
          · rcases u2 with h | h | h <;> rw [h] <;> decide
          · rcases u2 with h | h | h <;> rw [h] <;> decide
          · rcases u2 with h | h | h <;> rw [h]
            · exact wd hB hC hkL_13 rfl
            · exact wd hB hC hkL_15 rfl
            · exact wd hB hC hkL_40 rfl)
      have hfind : fdT e (((bk T t).setTop (F0 m pc ls (rest.map cv))).pushFrame (.throwing x)) (F0 m pc ls (rest.map cv)) x (hRes (hdl y.1) k) vm' := by
        intro Q E dd acts
        rw [W.findHandler_eq (meth := meth) (code := c) (by rw [Stand.throwing_vm]; exact X2.method') X2.code, hTb.2 h4]
        exact hfd Q E dd acts
      have X3 := X2.noted hW'
      have htk := hq3 k (by omega)
      cases ht : tH y.1 k with
      | some t9 =>
        simp only [ht] at ha
        have hres : hRes (hdl y.1) k = .found t9 := by
          rw [ht] at htk
          unfold hRes
          cases hff : (hdl y.1).find? (fun q => hk q.2.2.2 == k) with
          | none => rw [hff] at htk; cases htk
          | some q =>
            rw [hff] at htk
            simp at htk
            simp only [← htk]
        rw [hres] at hfind
        obtain ⟨t2, a1, b1⟩ := ih d y t9 L [aR x] h2 r ha p e R s m args below meth c z0 t0 hx0 hTb hl hb2 hbs2 hZ2 hz2 hR hR2 t.heap (locs ++ L2) ls hL (fun w hw => by rw [List.mem_singleton.mp hw]; exact ⟨trivial, rfl⟩) hHs hV2 ((bk T t).setVm vm') rfl X3
        exact ⟨t2, hst.trans (ctch (s := bk T t) (g := F0 m pc ls (rest.map cv)) X2.here hfind a1), b1⟩
      | none =>
        simp only [ht] at ha
        cases ha
        have hres : hRes (hdl y.1) k = .none := by
          rw [ht] at htk
          unfold hRes
          cases hff : (hdl y.1).find? (fun q => hk q.2.2.2 == k) with
          | none => rfl
          | some q => rw [hff] at htk; cases htk
        rw [hres] at hfind
        obtain ⟨g0, hfr0⟩ := X3.frames_eq
        refine ⟨((bk T t).setVm vm').setFrames (.throwing x :: below), hst.trans (lvs (s := bk T t) (g := F0 m pc ls (rest.map cv)) X2.here (meth := meth) X3.method' hlk rfl rfl hfind ?_), .threw x, X3.here.running, State.frames_setFrames _ (State.cur_lt_of_frames hfr0), (X3.ends _).1, ⟨locs ++ L2, (X3.ends _).2, hV2.2.2⟩, hHs, hk2, rfl, ce, hce, ?_, hcs⟩
        · rw [X2.tail]
          exact Steps.refl _
        · show vm'.findClass (exN k) = _
          rw [hW'.alike.findClass]
          exact hfk
    · have ht := (hw_all y hy).2 h4 k (by omega)
      simp only [ht] at ha
      cases ha
      obtain ⟨s1, s2, s3, s4, s5⟩ := X2.leaveThrown x (g := F0 m pc ls (rest.map cv)) rfl rfl rfl (hTb.1 h4 pc) hlk
      exact ⟨_, hst.trans s1, .threw x, s2, s3, s4, ⟨locs ++ L2, s5, hV2.2.2⟩, hHs, hk2, rfl, ce, hce, hcn, hcs⟩
end
end SimG
