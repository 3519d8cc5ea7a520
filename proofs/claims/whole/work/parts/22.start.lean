/-! From a run of the law on AM to the claim's own walk. -/
def mkf (j : Nat) : Int := ([117, 115, 116, 97, 114, 0, 48, 48] : List Int).getD j 0
/-- the heap at the law's start: the script at b, the marks at mk, N cells in all -/
def h00 (b mk N L : Nat) (xs : Nat → Int) : AH := (fun a => if a = mk then some (eA 1 8 mkf) else if a = b then some (eA 0 L xs) else none, N, 0, N, mk)
def LawOK : Prop := ∀ (b mk N L : Nat) (xs : Nat → Int), b < N → mk < N → b ≠ mk → L ≤ 3584 → (∀ j, r32 (xs j)) →
  Go 10 yLw_law 0 (ent yLw_law [aR b]) [] (h00 b mk N L xs) (fun o h' => o = .inl (some (aI 1)) ∧ h'.2.1 ≤ N + 601024 ∧ h'.2.2.1 ≤ 7293034)
def R_law : String := "TarYardLaw"
def lw_P (b : Addr) (xs : List Int32) (args : Array Value) (s : State) : Prop := args = #[.ref b] ∧ s.IntsAt b xs ∧ xs.length ≤ 3584 ∧ (Jvm.Cond.and given_1 narrow_1).before args s = true
def lw_Q (_ : Array Value) (s : State) (o : Outcome) (t : State) : Prop := o = .returned (some (.int 1)) ∧ Framed s o t [] 601024 7293034
def lw_Z (below : List Frame) (a : Array Value) (s : State) : State → Prop := fun t => ∃ o, t.status = .running ∧ Ended t below o ∧ lw_Q a s o t
def lw_At (p : Program) (s : State) (m : MethodId) (meth : Method) (c : Code) (b L : Nat) (xs : Nat → Int32) : Prop :=
  p.tables.exec = Jvm.exec ∧ c.code = code ∧ meth.sig.returnType = ret ∧ c.maxLocals = 7 ∧ s.vm.findClass R_law = some m.cls ∧ (∀ w ∈ lw_tbl, w.before #[Value.ref b] s = true) ∧ va_X b L xs s s.heap ∧ b < s.heap.size ∧ meth.locks = false ∧ (Jvm.Cond.and given_1 narrow_1).before #[Value.ref b] s = true ∧ Tbl yLw_law c
theorem exC0 : ∀ k, k < 3 → Jvm.Cond.castable (exN k) (exN k) ∈ lw_tbl := by decide +kernel
theorem not_cast {args : Array Value} {s : State} {A B : String} {c c' : ClassId} (h : (Jvm.Cond.not (.castable A B)).before args s = true) (h1 : s.vm.findClass A = some c) (h2 : s.vm.findClass B = some c') : s.vm.assignable c c' = false := by
  cases hh : s.vm.assignable c c' with
  | false => rfl
  | true => simp [Cond.before, Cond.holds, Cond.value, h1, h2, hh] at h
theorem exR_of {b : Nat} {s : State} (hts : ∀ w ∈ lw_tbl, w.before #[Value.ref b] s = true) (hgv : (Jvm.Cond.and given_1 narrow_1).before #[Value.ref b] s = true) : exR s := by
  have hs := flat_of_before _ hgv
  have hc : ∀ k, k < 3 → ∃ c, s.vm.findClass (exN k) = some c ∧ s.vm.assignable c c = true := fun k hk => by
    obtain ⟨c, c', h1, h2, h3⟩ := Cond.castable_spec (hts _ (exC0 k hk))
    cases h1.symm.trans h2
    exact ⟨c, h1, h3⟩
  have n01 : (Jvm.Cond.not (.castable (exN 0) (exN 1))).before #[Value.ref b] s = true := hs _ (by decide +kernel)
  have n02 : (Jvm.Cond.not (.castable (exN 0) (exN 2))).before #[Value.ref b] s = true := hs _ (by decide +kernel)
  have n10 : (Jvm.Cond.not (.castable (exN 1) (exN 0))).before #[Value.ref b] s = true := hs _ (by decide +kernel)
  have n12 : (Jvm.Cond.not (.castable (exN 1) (exN 2))).before #[Value.ref b] s = true := hs _ (by decide +kernel)
  have n20 : (Jvm.Cond.not (.castable (exN 2) (exN 0))).before #[Value.ref b] s = true := hs _ (by decide +kernel)
  have n21 : (Jvm.Cond.not (.castable (exN 2) (exN 1))).before #[Value.ref b] s = true := hs _ (by decide +kernel)
  intro k k' hk hk'
  obtain ⟨c, h1, h2⟩ := hc k (by omega)
  obtain ⟨c', h3, h4⟩ := hc k' (by omega)
  refine ⟨c, c', h1, h3, ?_⟩
  have e3 : ∀ j : Nat, j ≤ 2 → j = 0 ∨ j = 1 ∨ j = 2 := fun j hj => by omega
  rcases e3 k hk with rfl | rfl | rfl <;> rcases e3 k' hk' with rfl | rfl | rfl
  all_goals first
    | (cases h1.symm.trans h3; rw [h2]; rfl)
    | (rw [not_cast n01 h1 h3]; rfl)
    | (rw [not_cast n02 h1 h3]; rfl)
    | (rw [not_cast n10 h1 h3]; rfl)
    | (rw [not_cast n12 h1 h3]; rfl)
    | (rw [not_cast n20 h1 h3]; rfl)
    | (rw [not_cast n21 h1 h3]; rfl)
theorem inst_at : ∀ q ∈ vcl, ∃ n : Nat, Jvm.Cond.instantiable q.1 n ∈ lw_tbl := by
  have h : ∀ q ∈ vcl, (lw_tbl.any fun w => match w with | .instantiable C _ => C == q.1 | _ => false) = true := by decide +kernel
  intro q hq
  obtain ⟨w, hw, hb⟩ := List.any_eq_true.mp (h q hq)
  split at hb
  · rename_i C n
    rw [beq_iff_eq] at hb
    subst hb
    exact ⟨n, hw⟩
  · cases hb
theorem known_of {b : Nat} {s : State} (hts : ∀ w ∈ lw_tbl, w.before #[Value.ref b] s = true) : ∃ (D : va_G) (dA : Nat → ClassId), va_K D vcl (tyl dA) s := by
  have h1 : ∀ c : Nat, ∃ (cC : ClassId) (iS : Nat → Nat), ∀ q : vw_C, vcl[c]? = some q → u_Kn s q.1 q.2.1 q.2.2 cC iS := fun c => by
    cases hq : vcl[c]? with
    | none => exact ⟨0, fun _ => 0, fun q h => by cases h⟩
    | some q =>
      obtain ⟨n, hn⟩ := inst_at q (List.mem_of_getElem? hq)
      obtain ⟨cC, iS, hk⟩ := u_known hts (vcl_all c q hq).2.1 (hts _ hn)
      exact ⟨cC, iS, fun q' h => by cases h; exact hk⟩
  have h2 : ∀ k : Nat, ∃ cA : ClassId, k ≤ 3 → ArrOfT s cA (arT k) ∧ va_RA s cA (arT k) := fun k => by
    match k with
    | 0 =>
      obtain ⟨c, k, comp, e1, e2, e3⟩ := Cond.arrayClass_spec (hts _ (List.mem_of_getElem? ac_int))
      exact ⟨c, fun _ => ⟨fun n z => ⟨fun k h => (by cases h), k, e2, comp, e3⟩, e1⟩⟩
    | 1 =>
      obtain ⟨c, k, comp, e1, e2, e3⟩ := Cond.arrayClass_spec (hts _ (List.mem_of_getElem? ac_byte))
      exact ⟨c, fun _ => ⟨fun n z => ⟨fun k h => (by cases h), k, e2, comp, e3⟩, e1⟩⟩
    | 2 =>
      obtain ⟨c, k, comp, e1, e2, e3⟩ := Cond.arrayClass_spec (hts _ (List.mem_of_getElem? ac_long))
      exact ⟨c, fun _ => ⟨fun n z => ⟨fun k h => (by cases h), k, e2, comp, e3⟩, e1⟩⟩
    | 3 =>
      obtain ⟨comp, c, k, e0, -, e2, e3, e4⟩ := Cond.arrayOver_spec (hts _ (List.mem_of_getElem? ao_node))
      exact ⟨c, fun _ => ⟨fun n z => ⟨fun k h => (by cases h), k, e2, comp, e3⟩, k, comp, e2, e3, e0, e4⟩⟩
    | k + 4 => exact ⟨0, fun h => absurd h (by omega)⟩
  refine ⟨(fun c => (h1 c).choose, fun c => (h1 c).choose_spec.choose), fun k => (h2 k).choose, fun c q hq => (h1 c).choose_spec.choose_spec q hq, fun k q hq => ?_⟩
  have hlt : k < 4 := (List.getElem?_eq_some_iff.mp hq).1
  rw [tyl_at (by omega)] at hq
  cases hq
  exact (h2 k).choose_spec (by omega)
theorem mark_lay : Jvm.Cond.laysStatic "TarYard$Tape" "MARK" "[B" ∈ lw_tbl ∧ Jvm.Cond.initialized "TarYard$Tape" ∈ lw_tbl := by decide +kernel
theorem mark_of {b : Nat} {s : State} (hgv : (Jvm.Cond.and given_1 narrow_1).before #[Value.ref b] s = true) : ∃ t : Nat, (Term.static "TarYard$Tape" "MARK" "[B").eval #[Value.ref b] s none [] s = some (.ref t) ∧ va_T .byte t 8 (fun j => .int (Int32.ofInt (mkf j))) (fun q => s.heap.size ≤ q) s s.heap := by
  have hs := flat_of_before _ hgv
  refine va_Tof (tm := .static "TarYard$Tape" "MARK" "[B") (by decide) (hs _ (by decide +kernel)) (va_eqt (hs _ (by decide +kernel))) (fun j hj => ?_) (fun a h => Nat.not_le.mpr h)
  have e8 : j = 0 ∨ j = 1 ∨ j = 2 ∨ j = 3 ∨ j = 4 ∨ j = 5 ∨ j = 6 ∨ j = 7 := by omega
  rcases e8 with rfl | rfl | rfl | rfl | rfl | rfl | rfl | rfl
  · exact va_eqt (z := 117) (hs _ (by decide +kernel))
  · exact va_eqt (z := 115) (hs _ (by decide +kernel))
  · exact va_eqt (z := 116) (hs _ (by decide +kernel))
  · exact va_eqt (z := 97) (hs _ (by decide +kernel))
  · exact va_eqt (z := 114) (hs _ (by decide +kernel))
  · exact va_eqt (z := 0) (hs _ (by decide +kernel))
  · exact va_eqt (z := 48) (hs _ (by decide +kernel))
  · exact va_eqt (z := 48) (hs _ (by decide +kernel))
set_option maxHeartbeats 4000000 in
theorem whole_start (hlaw : LawOK) {p : Program} {e : Env} {s : State} {m : MethodId} {below : List Frame} {meth : Method} {c : Code} (l : Launch) (hfl : l.flags = flags0) {b L : Nat} {xs : Nat → Int32} (hL : L ≤ 3584) (C0 : lw_At p s m meth c b L xs) : W p l e room_1 s m #[Value.ref b] below meth c s.heap [] 0 0 (lw_Z below #[Value.ref b] s) (entryFrame m ([Value.ref b] : List Value).toArray 7) := by
  obtain ⟨hx, hb, hr, hml, hown, hts, hX, hbl, hlocks, hgv, hTb⟩ := C0
  have hs := flat_of_before _ hgv
  obtain ⟨D, dA, hK⟩ := known_of hts
  obtain ⟨mk, hev, hMk⟩ := mark_of hgv
  have hZ := va_Zref (A := fun q => s.heap.size ≤ q) (hts _ mark_lay.1) (hts _ mark_lay.2) hev (fun a h => Nat.not_le.mpr h)
  obtain ⟨scr, x1, x2, x3, x4, x5⟩ := hX
  obtain ⟨cell, y1, y2, y3, y4, y5, y6, y7⟩ := id hMk
  have hmk : mk < s.heap.size := Nat.not_le.mp y7
  have hne : b ≠ mk := fun h => by
    subst h
    cases x1.symm.trans y1
    obtain ⟨-, k1, e1, c1, e2⟩ := x2
    obtain ⟨-, k2, e3, c2, e4⟩ := y2
    cases e1.symm.trans e3
    rw [e2] at e4
    cases e4
  obtain ⟨n, r, hgo, ho, hr1, hr2⟩ := hlaw b mk s.heap.size L (fun j => (xs j).toInt) hbl hmk hne hL (fun j => r32_of (xs j))
  have hC : ct s s := ⟨State.WarmedH.refl s, fun _ _ => rfl⟩
  have hle := LR.entry (z := yLw_law) (As := [aR b]) (fun v hv => by rw [List.mem_singleton.mp hv]; exact ⟨trivial, rfl⟩) (show 1 ≤ 7 by decide)
  have hy : yLw_law ∈ allY := by
    have := List.mem_of_getElem? (l := allY) (i := yLw_law.1) (a := yLw_law) rfl
    exact this
  have hH : HR D dA s (h00 b mk s.heap.size L (fun j => (xs j).toInt)) s.heap := by
    refine ⟨rfl, Nat.le_refl _, fun a e he => ?_⟩
    simp only [h00] at he
    split at he
    · rename_i ha
      cases he
      subst ha
      refine ⟨⟨by decide, Or.inr (Or.inl ⟨rfl, fun j => ?_⟩)⟩, fun h => absurd h (Nat.not_le.mpr hmk), fun _ => ⟨by decide, hMk⟩⟩
      unfold mkf
      by_cases hj : j < 8
      · have e8 : j = 0 ∨ j = 1 ∨ j = 2 ∨ j = 3 ∨ j = 4 ∨ j = 5 ∨ j = 6 ∨ j = 7 := by omega
        rcases e8 with rfl | rfl | rfl | rfl | rfl | rfl | rfl | rfl <;> exact ⟨by decide, by decide⟩
      · rw [List.getD_eq_getElem?_getD, List.getElem?_eq_none (by simp; omega)]
        exact ⟨by decide, by decide⟩
    · split at he
      · rename_i ha
        cases he
        subst ha
        refine ⟨⟨by omega, Or.inl ⟨rfl, fun j => r32_of (xs j)⟩⟩, fun h => absurd h (Nat.not_le.mpr hbl), fun _ => ⟨by decide, scr, x1, x2, x3, ?_, ?_, fun j hj => ?_, Nat.not_le.mpr hbl⟩⟩
        · rw [x4]; exact Nat.le_refl _
        · simp only [x4]
          try rfl
        · rw [x5 j hj]
          show some (Value.int (xs j)) = some (Value.int (Int32.ofInt (xs j).toInt))
          rw [Int32.ofInt_toInt]
      · cases he
  have k := sim (a0 := #[Value.ref b]) (l := l) (D := D) (dA := dA) hts (hs exU1 (by decide +kernel)) (hs exU2 (by decide +kernel)) (exR_of hts hgv) (fun e he => Launch.traces_off hfl he) n 10 yLw_law 0 (ent yLw_law [aR b]) [] (h00 b mk s.heap.size L (fun j => (xs j).toInt)) r hgo p e room_1 s m #[Value.ref b] below meth c s.heap.size 0
    ⟨hx, hb, hml, hown, hy, hr, hlocks, fun h => (by cases h), hC, hK⟩ hTb rfl (Nat.le_refl _) (Nat.le_refl _) hZ ⟨Nat.le_refl _, Nat.le_refl _⟩ ⟨by decide, by decide⟩ ⟨by show r.2.2.1 - s.heap.size ≤ 601024; omega, by show r.2.2.2.1 - 0 ≤ 7293034; omega⟩
    s.heap [] _ hle.2 (fun v hv => by cases hv) hH va_S.rf
  intro T hT X
  rw [lg_entry_eq]
  have X' : Stand p l e room_1 s m #[Value.ref b] below meth c T [] (s.heap.size - s.heap.size) (0 - 0) := by
    rw [Nat.sub_self]
    exact X
  obtain ⟨t, a1, o, b1, b2, b3, ⟨Lc, b4, b5⟩, b6, b7⟩ := k T hT X'
  refine ⟨t, a1, o, b1, b2, ?_, ?_⟩
  · rw [ho] at b7
    exact b7.1
  · have hm := (go_mor _ _ _ _ _ _ _ _ hgo).2.2
    rw [ho] at b7
    obtain ⟨rfl, -⟩ := b7
    refine ⟨⟨_, rfl⟩, b3, b4.weaken (fun q hq hlt => ?_) ?_ ?_⟩
    · have h5 := b5 q hq
      rw [hm] at h5
      exact absurd hlt (Nat.not_lt.mpr h5)
    · omega
    · omega
