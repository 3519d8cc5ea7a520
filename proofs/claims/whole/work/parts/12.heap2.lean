/-! From AM to the true machine, 4: arrays, new cells, the library's steps. -/
theorem one_P {D : va_G} {a : Nat} {x : va_E} {H : Heap} (h : va_at D vcl (a, x) H) : va_P D vcl [(a, x)] H := fun j u hu => by
  match j, hu with
  | 0, hu => cases hu; exact h
  | j + 1, hu => simp at hu
theorem upI (f : Nat → Int) (i : Nat) (x : Int) (g : Nat → Int32) (hg : g = fun j => Int32.ofInt (f j)) : upd g i (Int32.ofInt x) = fun j => Int32.ofInt (va_up f i x j) := by
  subst hg
  funext q
  by_cases hq : q = i
  · simp [upd, va_up, hq]
  · simp [upd, va_up, hq]
def dfl (v : AV) : Bool := match v with
  | some (.inl x) => x == 0
  | some (.inr (.inl x)) => x == 0
  | some (.inr (.inr none)) => true
  | _ => false
theorem b0 : r8 0 := ⟨by decide, by decide⟩
theorem tD_ok (ci : Nat) : okE (eO ci (tD ci)) := by
  have h0 : ∀ l ∈ tDl, l.all dfl = true := by decide
  intro v hv
  unfold tD at hv
  rw [List.getD_eq_getElem?_getD] at hv
  cases hk : tDl[ci]? with
  | none => rw [hk] at hv; simp at hv
  | some l =>
    rw [hk] at hv
    have h1 := List.all_eq_true.mp (h0 l (List.mem_of_getElem? hk)) v (by simpa using hv)
    rcases v with _ | x | x | _ | x
    · cases h1
    · simp [dfl] at h1; subst h1; exact ⟨r0, rfl⟩
    · simp [dfl] at h1; subst h1; exact ⟨l0, rfl⟩
    · exact ⟨trivial, rfl⟩
    · cases h1
theorem nwA {kd : Nat} (hk : kd ≤ 2) (cX : ClassId) (N : Nat) : vp_cell cX (N, cA kd (fun _ => 0)) = arrV cX N (fun _ => defaultValue (arT kd)) := by
  match kd, hk with
  | 0, _ => rfl
  | 1, _ => rfl
  | 2, _ => rfl
  | k + 3, h => exact absurd h (by omega)
theorem at_ok {t : Jvm.ClassFile.ArrayType} {kd : Nat} (h : a_at t = some kd) : kd ≤ 2 ∧ newarray.typeOf t = arT kd ∧ componentBytes (newarray.typeOf t) ≤ 8 ∧ okE (eA kd 0 (fun _ => 0)) := by
  cases t <;> first | (cases h; done) | skip
  all_goals cases h
  · exact ⟨by decide, rfl, by decide, by decide, Or.inr (Or.inl ⟨rfl, fun _ => b0⟩)⟩
  · exact ⟨by decide, rfl, by decide, by decide, Or.inl ⟨rfl, fun _ => r0⟩⟩
  · exact ⟨by decide, rfl, by decide, by decide, Or.inr (Or.inr ⟨rfl, fun _ => l0⟩)⟩
theorem at_w {s0 s : State} {a0 args : Array Value} (hB : ∀ w ∈ lw_tbl, w.before a0 s0 = true) (hC : ct s0 s) {kd : Nat} (hk : kd ≤ 2) : (Jvm.Cond.arrayClass (arT kd)).before args s = true := by
  match kd, hk with
  | 0, _ => exact wdA hB hC ac_int
  | 1, _ => exact wdA hB hC ac_byte
  | 2, _ => exact wdA hB hC ac_long
  | k + 3, h => exact absurd h (by omega)
theorem at_cls {D : va_G} {dA : Nat → ClassId} {s : State} (hK : va_K D vcl (tyl dA) s) {kd : Nat} (hk : kd ≤ 2) : s.vm.findClass ("[" ++ (arT kd).toString) = some (dA kd) := by
  match kd, hk with
  | 0, _ => exact (hK.2 0 _ rfl).2
  | 1, _ => exact (hK.2 1 _ rfl).2
  | 2, _ => exact (hK.2 2 _ rfl).2
  | k + 3, h => exact absurd h (by omega)
section SimC
variable {s0 : State} {a0 : Array Value} {p : Program} {l : Launch} {e : Env} {R : Room} {s : State} {m : MethodId} {args : Array Value} {below : List Frame} {meth : Method} {c : Code} {Q : State → Prop} {D : va_G} {dA : Nat → ClassId} {z0 t0 : Nat}
variable {y : AY} {pc pc' len : Nat} {L S L' S' : List AV} {h h' : AH}
theorem sm_iald (hx : cx s0 D dA p s m meth c y) (hd : tb y pc = some (.iaload, 1)) (hs : s_ild 0 (pc + 1) L S h = some (pc', L', S', h')) (k : SW p l e R s m args below meth c Q D dA z0 t0 pc' L' S' h') : SW p l e R s m args below meth c Q D dA z0 t0 pc L S h := by
  obtain ⟨hx1, hb, hml, hown, hy, -, -, -, hC, hK⟩ := hx
  have hdg := dcd hy hd
  intro H locs ls hL hS hH hV
  unfold s_ild at hs
  split at hs
  · rename_i i a S2
    split at hs
    · rename_i kd n f hc
      split at hs
      · rename_i hg
        cases hs
        obtain ⟨rfl, hi⟩ := hg
        obtain ⟨ho, hat, hst⟩ := hH.2.2 a _ hc
        have hri : r32 i := hS.head
        have hrf : r32 (f i.toNat) := by
          rcases ho.2 with h1 | h1 | h1
          · exact h1.2 _
          · exact absurd h1.1 (by decide)
          · exact absurd h1.1 (by decide)
        have hin := inN hri hi
        have ecl := clN hri hi.1
        have kk := k H locs ls hL (hS.tail.tail.cons (v := .inl (f i.toNat)) hrf) hH hV
        by_cases hba : h.2.2.2.1 ≤ a
        · refine va_iald (D := D) (cl := vcl) (tys := tyl dA) (ws := [(a, ce dA (eA 0 n f))]) hx1 hb hK (one_P (hat hba)) 0 0 rfl rfl hin hdg ?_
          rw [ecl]
          exact kk
        · obtain ⟨-, hT⟩ := hst (Nat.not_le.mp hba)
          exact va_ti hx1 hb hT hV hin (v := .int (Int32.ofInt (f i.toNat))) (by rw [ecl]) hdg kk
      · cases hs
    · cases hs
  · cases hs
theorem sm_bald (hx : cx s0 D dA p s m meth c y) (hd : tb y pc = some (.baload, 1)) (hs : s_ild 1 (pc + 1) L S h = some (pc', L', S', h')) (k : SW p l e R s m args below meth c Q D dA z0 t0 pc' L' S' h') : SW p l e R s m args below meth c Q D dA z0 t0 pc L S h := by
  obtain ⟨hx1, hb, hml, hown, hy, -, -, -, hC, hK⟩ := hx
  have hdg := dcd hy hd
  intro H locs ls hL hS hH hV
  unfold s_ild at hs
  split at hs
  · rename_i i a S2
    split at hs
    · rename_i kd n f hc
      split at hs
      · rename_i hg
        cases hs
        obtain ⟨rfl, hi⟩ := hg
        obtain ⟨ho, hat, hst⟩ := hH.2.2 a _ hc
        have hri : r32 i := hS.head
        have hrf : r32 (f i.toNat) := by
          rcases ho.2 with h1 | h1 | h1
          · exact absurd h1.1 (by decide)
          · exact (h1.2 _).r32
          · exact absurd h1.1 (by decide)
        have hin := inN hri hi
        have ecl := clN hri hi.1
        have kk := k H locs ls hL (hS.tail.tail.cons (v := .inl (f i.toNat)) hrf) hH hV
        by_cases hba : h.2.2.2.1 ≤ a
        · refine va_bald (D := D) (cl := vcl) (tys := tyl dA) (ws := [(a, ce dA (eA 1 n f))]) hx1 hb hK (one_P (hat hba)) 0 1 rfl rfl hin hdg ?_
          rw [ecl]
          exact kk
        · obtain ⟨-, hT⟩ := hst (Nat.not_le.mp hba)
          exact va_tb hx1 hb hT hV hin (v := .int (Int32.ofInt (f i.toNat))) (by rw [ecl]) hdg kk
      · cases hs
    · cases hs
  · cases hs
theorem sm_lald (hx : cx s0 D dA p s m meth c y) (hd : tb y pc = some (.laload, 1)) (hs : s_ild 2 (pc + 1) L S h = some (pc', L', S', h')) (k : SW p l e R s m args below meth c Q D dA z0 t0 pc' L' S' h') : SW p l e R s m args below meth c Q D dA z0 t0 pc L S h := by
  obtain ⟨hx1, hb, hml, hown, hy, -, -, -, hC, hK⟩ := hx
  have hdg := dcd hy hd
  intro H locs ls hL hS hH hV
  unfold s_ild at hs
  split at hs
  · rename_i i a S2
    split at hs
    · rename_i kd n f hc
      split at hs
      · rename_i hg
        cases hs
        obtain ⟨rfl, hi⟩ := hg
        obtain ⟨ho, hat, hst⟩ := hH.2.2 a _ hc
        have hri : r32 i := hS.head
        have hrf : r64 (f i.toNat) := by
          rcases ho.2 with h1 | h1 | h1
          · exact absurd h1.1 (by decide)
          · exact absurd h1.1 (by decide)
          · exact h1.2 _
        have hin := inN hri hi
        have ecl := clN hri hi.1
        have kk := k H locs ls hL (hS.tail.tail.cons (v := .inr (.inl (f i.toNat))) hrf) hH hV
        by_cases hba : h.2.2.2.1 ≤ a
        · refine va_lald (D := D) (cl := vcl) (tys := tyl dA) (ws := [(a, ce dA (eA 2 n f))]) hx1 hb hK (one_P (hat hba)) 0 2 rfl rfl hin hdg ?_
          rw [ecl]
          exact kk
        · obtain ⟨h1, -⟩ := hst (Nat.not_le.mp hba)
          exact absurd h1 (by decide)
      · cases hs
    · cases hs
  · cases hs
theorem sm_qld (hx : cx s0 D dA p s m meth c y) (hd : tb y pc = some (.aaload, 1)) (hs : s_qld (pc + 1) L S h = some (pc', L', S', h')) (k : SW p l e R s m args below meth c Q D dA z0 t0 pc' L' S' h') : SW p l e R s m args below meth c Q D dA z0 t0 pc L S h := by
  obtain ⟨hx1, hb, hml, hown, hy, -, -, -, hC, hK⟩ := hx
  have hdg := dcd hy hd
  intro H locs ls hL hS hH hV
  unfold s_qld at hs
  split at hs
  · rename_i i a S2
    split at hs
    · rename_i kd n f hc
      split at hs
      · rename_i hg
        split at hs
        · rename_i x hv
          cases hs
          obtain ⟨-, hba, hi⟩ := hg
          obtain ⟨ho, hat, hst⟩ := hH.2.2 a _ hc
          obtain ⟨-, rfl⟩ := ho
          have hri : r32 i := hS.head
          have hin := inN hri hi
          have ecl := clN hri hi.1
          refine va_aldq (D := D) (cl := vcl) (tys := tyl dA) (ws := [(a, ce dA (eQ 3 n f))]) hx1 hb hK (one_P (hat hba)) 0 3 rfl (C := cNm 0) rfl hin hdg ?_
          rw [ecl, hv]
          exact k H locs ls hL (hS.tail.tail.cons (v := .inr (.inr (some x))) trivial) hH hV
        · cases hs
      · cases hs
    · cases hs
  · cases hs
theorem sm_len (hx : cx s0 D dA p s m meth c y) (hd : tb y pc = some (.arraylength, 1)) (hs : s_len (pc + 1) L S h = some (pc', L', S', h')) (k : SW p l e R s m args below meth c Q D dA z0 t0 pc' L' S' h') : SW p l e R s m args below meth c Q D dA z0 t0 pc L S h := by
  obtain ⟨hx1, hb, hml, hown, hy, -, -, -, hC, hK⟩ := hx
  have hdg := dcd hy hd
  intro H locs ls hL hS hH hV
  unfold s_len at hs
  split at hs
  · rename_i a S2
    split at hs
    · rename_i kd n f hc
      split at hs
      · rename_i hn
        cases hs
        obtain ⟨ho, hat, hst⟩ := hH.2.2 a _ hc
        have kk := k H locs ls hL (hS.tail.cons (v := .inl n) ⟨by omega, by omega⟩) hH hV
        have en : Int32.ofNat n = Int32.ofInt (n : Int) := (Int32.ofInt_eq_ofNat).symm
        by_cases hba : h.2.2.2.1 ≤ a
        · rcases f with f | f
          · have hk : kd ≤ 3 := by rcases ho.2 with h1 | h1 | h1 <;> omega
            exact va_alen (D := D) (cl := vcl) (tys := tyl dA) (ws := [(a, ce dA (eA kd n f))]) hx1 hb hK (one_P (hat hba)) 0 kd rfl (tyl_at hk) (v := Int32.ofInt n) en hdg kk
          · have hk : kd ≤ 3 := by have := ho.2; omega
            exact va_alen (D := D) (cl := vcl) (tys := tyl dA) (ws := [(a, ce dA (eQ kd n f))]) hx1 hb hK (one_P (hat hba)) 0 kd rfl (tyl_at hk) (v := Int32.ofInt n) en hdg kk
        · have h1 := hst (Nat.not_le.mp hba)
          rcases f with f | f
          · exact va_tlen hx1 hb h1.2 hV (v := Int32.ofInt n) en hdg kk
          · exact absurd h1 id
      · cases hs
    · cases hs
  · cases hs
theorem sm_iast (hx : cx s0 D dA p s m meth c y) (hd : tb y pc = some (.iastore, 1)) (hs : s_ist 0 (pc + 1) (fun x => x) L S h = some (pc', L', S', h')) (k : SW p l e R s m args below meth c Q D dA z0 t0 pc' L' S' h') : SW p l e R s m args below meth c Q D dA z0 t0 pc L S h := by
  obtain ⟨hx1, hb, hml, hown, hy, -, -, -, hC, hK⟩ := hx
  have hdg := dcd hy hd
  intro H locs ls hL hS hH hV
  unfold s_ist at hs
  split at hs
  · rename_i x i a S2
    split at hs
    · rename_i kd n f hc
      split at hs
      · rename_i hg
        cases hs
        obtain ⟨rfl, hba, hi⟩ := hg
        obtain ⟨ho, hat, hst⟩ := hH.2.2 a _ hc
        have hri : r32 i := hS.tail.head
        have hin := inN hri hi
        have ecl := clN hri hi.1
        have hat := hat hba
        refine W.iast hx1 hb hat ((hK.2 0 _ rfl).1 n (fun j => .int (Int32.ofInt (f j)))) (fun q => by cases q) (by show ¬ (_ < _ ∨ (arrV _ _ _).slots.size ≤ _); rw [arrV_size]; exact hin) rfl rfl hdg fun H1 e1 z oq => ?_
        refine k H1 _ ls hL hS.tail.tail.tail (hH.set (e1 := eA 0 n (va_up f i.toNat x)) hba ⟨ho.1, Or.inl ⟨rfl, fun j => ?_⟩⟩ ?_ z oq) (hV.put z oq hba)
        · unfold va_up
          split
          · exact hS.head
          · rcases ho.2 with h1 | h1 | h1
            · exact h1.2 _
            · exact absurd h1.1 (by decide)
            · exact absurd h1.1 (by decide)
        · show H1[a]? = some (arrV (dA 0) n (fun j => .int (Int32.ofInt (va_up f i.toNat x j))))
          rw [e1, ecl]
          show some ((arrV (dA 0) n (fun j => .int (Int32.ofInt (f j)))).setSlot i.toNat (.int (Int32.ofInt x))) = _
          rw [arrV_store]
          congr 2
          funext q
          by_cases hq : q = i.toNat <;> simp [updV, va_up, hq]
      · cases hs
    · cases hs
  · cases hs
theorem sm_bast (hx : cx s0 D dA p s m meth c y) (hd : tb y pc = some (.bastore, 1)) (hs : s_ist 1 (pc + 1) a8 L S h = some (pc', L', S', h')) (k : SW p l e R s m args below meth c Q D dA z0 t0 pc' L' S' h') : SW p l e R s m args below meth c Q D dA z0 t0 pc L S h := by
  obtain ⟨hx1, hb, hml, hown, hy, -, -, -, hC, hK⟩ := hx
  have hdg := dcd hy hd
  intro H locs ls hL hS hH hV
  unfold s_ist at hs
  split at hs
  · rename_i x i a S2
    split at hs
    · rename_i kd n f hc
      split at hs
      · rename_i hg
        cases hs
        obtain ⟨rfl, hba, hi⟩ := hg
        obtain ⟨ho, hat, hst⟩ := hH.2.2 a _ hc
        have hri : r32 i := hS.tail.head
        have hin := inN hri hi
        have ecl := clN hri hi.1
        have hat := hat hba
        refine W.bast hx1 hb hat ((hK.2 1 _ rfl).1 n (fun j => .int (Int32.ofInt (f j)))) (fun q => by cases q) (by show ¬ (_ < _ ∨ (arrV _ _ _).slots.size ≤ _); rw [arrV_size]; exact hin) rfl rfl hdg fun H1 e1 z oq => ?_
        refine k H1 _ ls hL hS.tail.tail.tail (hH.set (e1 := eA 1 n (va_up f i.toNat (a8 x))) hba ⟨ho.1, Or.inr (Or.inl ⟨rfl, fun j => ?_⟩)⟩ ?_ z oq) (hV.put z oq hba)
        · unfold va_up
          split
          · exact r8_a _
          · rcases ho.2 with h1 | h1 | h1
            · exact absurd h1.1 (by decide)
            · exact h1.2 _
            · exact absurd h1.1 (by decide)
        · show H1[a]? = some (arrV (dA 1) n (fun j => .int (Int32.ofInt (va_up f i.toNat (a8 x) j))))
          rw [e1, ecl]
          show some ((arrV (dA 1) n (fun j => .int (Int32.ofInt (f j)))).setSlot i.toNat (.int (Int32.ofInt x).toInt8.toInt32)) = _
          rw [arrV_store, ← o8]
          congr 2
          funext q
          by_cases hq : q = i.toNat <;> simp [updV, va_up, hq]
      · cases hs
    · cases hs
  · cases hs
theorem sm_last (hx : cx s0 D dA p s m meth c y) (hd : tb y pc = some (.lastore, 1)) (hs : s_lst (pc + 1) L S h = some (pc', L', S', h')) (k : SW p l e R s m args below meth c Q D dA z0 t0 pc' L' S' h') : SW p l e R s m args below meth c Q D dA z0 t0 pc L S h := by
  obtain ⟨hx1, hb, hml, hown, hy, -, -, -, hC, hK⟩ := hx
  have hdg := dcd hy hd
  intro H locs ls hL hS hH hV
  unfold s_lst at hs
  split at hs
  · rename_i x i a S2
    split at hs
    · rename_i kd n f hc
      split at hs
      · rename_i hg
        cases hs
        obtain ⟨rfl, hba, hi⟩ := hg
        obtain ⟨ho, hat, hst⟩ := hH.2.2 a _ hc
        have hri : r32 i := hS.tail.head
        have hin := inN hri hi
        have ecl := clN hri hi.1
        have hat := hat hba
        refine W.last hx1 hb hat ((hK.2 2 _ rfl).1 n (fun j => .long (Int64.ofInt (f j)))) (fun q => by cases q) (by show ¬ (_ < _ ∨ (arrV _ _ _).slots.size ≤ _); rw [arrV_size]; exact hin) rfl rfl hdg fun H1 e1 z oq => ?_
        refine k H1 _ ls hL hS.tail.tail.tail (hH.set (e1 := eA 2 n (va_up f i.toNat x)) hba ⟨ho.1, Or.inr (Or.inr ⟨rfl, fun j => ?_⟩)⟩ ?_ z oq) (hV.put z oq hba)
        · unfold va_up
          split
          · exact hS.head
          · rcases ho.2 with h1 | h1 | h1
            · exact absurd h1.1 (by decide)
            · exact absurd h1.1 (by decide)
            · exact h1.2 _
        · show H1[a]? = some (arrV (dA 2) n (fun j => .long (Int64.ofInt (va_up f i.toNat x j))))
          rw [e1, ecl]
          show some ((arrV (dA 2) n (fun j => .long (Int64.ofInt (f j)))).setSlot i.toNat (.long (Int64.ofInt x))) = _
          rw [arrV_store]
          congr 2
          funext q
          by_cases hq : q = i.toNat <;> simp [updV, va_up, hq]
      · cases hs
    · cases hs
  · cases hs
theorem sm_qst (hx : cx s0 D dA p s m meth c y) (hd : tb y pc = some (.aastore, 1)) (hs : s_qst (pc + 1) L S h = some (pc', L', S', h')) (k : SW p l e R s m args below meth c Q D dA z0 t0 pc' L' S' h') : SW p l e R s m args below meth c Q D dA z0 t0 pc L S h := by
  obtain ⟨hx1, hb, hml, hown, hy, -, -, -, hC, hK⟩ := hx
  have hdg := dcd hy hd
  intro H locs ls hL hS hH hV
  unfold s_qst at hs
  split at hs
  · rename_i x i a S2
    split at hs
    · rename_i kd n f hc
      split at hs
      · rename_i ci fs hcx
        split at hs
        · rename_i hg
          cases hs
          obtain ⟨hkd, hba, hbx, hi⟩ := hg
          obtain ⟨ho, hat, hst⟩ := hH.2.2 a _ hc
          obtain ⟨hox, hatx, -⟩ := hH.2.2 x _ hcx
          have hk3 := ho.2
          obtain rfl : ci = 0 := by omega
          subst hk3
          have hri : r32 i := hS.tail.head
          have hin := inN hri hi
          have ecl := clN hri hi.1
          have hlt : i.toNat < n := by omega
          obtain ⟨r', hr', cellV, g1, g2, g3, -⟩ := hatx hbx
          have hcls := (hK.1 0 ("TarYard$Node", FC0, 8) rfl).2
          obtain ⟨kA, comp, k1, k2, k3, -⟩ := (hK.2 3 _ rfl).2
          have hcomp : comp = D.1 0 := Option.some.inj (k3.symm.trans hcls.1)
          subst hcomp
          obtain ⟨kC, hkC, -⟩ := hcls.2
          refine W.aast hx1 hb (hat hba) (fun q h => by cases h) (fun h => by cases h) k1 k2 rfl hkC ⟨fun q => hin (Or.inl q), by show _ < (arrV _ _ _).slots.size; rw [arrV_size, ecl]; exact hlt⟩ g1 (fun q h => by rw [g3] at h; cases h) (by rw [g2]; exact hkC) (by rw [g2]; exact va_assign hcls) rfl rfl hdg fun H1 e1 z oq => ?_
          refine k H1 _ ls hL hS.tail.tail.tail (hH.set (e1 := eQ 3 n (va_up f i.toNat (some x))) hba ho ?_ z oq) (hV.put z oq hba)
          show H1[a]? = some (arrV (dA 3) n (fun j => va_rf (va_up f i.toNat (some x) j)))
          rw [e1, ecl]
          show some ((arrV (dA 3) n (fun j => va_rf (f j))).setSlot i.toNat (.ref x)) = _
          rw [arrV_store]
          congr 2
          funext q
          by_cases hq : q = i.toNat <;> simp [updV, va_up, va_rf, hq]
        · cases hs
      · cases hs
    · cases hs
  · cases hs
theorem sm_gets {x : Nat} (hx : cx s0 D dA p s m meth c y) (hB : ∀ w ∈ lw_tbl, w.before a0 s0 = true) (hZ : va_Z "TarYard$Tape" "MARK" "[B" (.ref h.2.2.2.2) (fun q => h.2.2.2.1 ≤ q) s s.heap) (hd : tb y pc = some (.getstatic x, 3)) (hs : stp y (.getstatic x) 3 pc L S h = some (pc', L', S', h')) (k : SW p l e R s m args below meth c Q D dA z0 t0 pc' L' S' h') : SW p l e R s m args below meth c Q D dA z0 t0 pc L S h := by
  obtain ⟨hx1, hb, hml, hown, hy, -, -, -, hC, hK⟩ := hx
  have hdg := dcd hy hd
  intro H locs ls hL hS hH hV
  simp only [stp] at hs
  split at hs
  · rename_i h1
    cases hs
    obtain ⟨h2, h3⟩ := tS_ok h1
    obtain ⟨w, hw⟩ := tS_w
    rw [h2] at hown
    rw [h3] at hdg
    exact va_gets hx1 hb hZ hV hown (wd hB hC hw rfl) (fun u hu => hu) hdg (k H locs ls hL (hS.cons (v := .inr (.inr (some h.2.2.2.2))) trivial) hH hV)
  · cases hs
theorem sm_new {x : Nat} (hx : cx s0 D dA p s m meth c y) (hB : ∀ w ∈ lw_tbl, w.before a0 s0 = true) (hz : z0 ≤ h.2.1 ∧ t0 ≤ h.2.2.1) (hR : h'.2.1 - z0 ≤ R.cells ∧ h'.2.2.1 - t0 ≤ R.slots) (hd : tb y pc = some (.new x, 3)) (hs : s_new y x pc L S h = some (pc', L', S', h')) (k : SW p l e R s m args below meth c Q D dA z0 t0 pc' L' S' h') : SW p l e R s m args below meth c Q D dA z0 t0 pc L S h := by
  obtain ⟨hx1, hb, hml, hown, hy, -, -, -, hC, hK⟩ := hx
  have hdg := dcd hy hd
  intro H locs ls hL hS hH hV
  unfold s_new at hs
  split at hs
  · rename_i ci hci
    cases hs
    obtain ⟨q, p1, p2, p3, hq, w1, w2, w3, hlen⟩ := tC_ok hci
    obtain ⟨hn, hin, hnm, ty0, hty, hdf⟩ := vcl_all ci q hq
    have hKn := hK.1 ci _ hq
    have hsz := hH.1
    have e1 : (hnew h (eO ci (tD ci)) (tD ci).length).2.1 = h.2.1 + 1 := rfl
    have e2 : (hnew h (eO ci (tD ci)) (tD ci).length).2.2.1 = h.2.2.1 + (tD ci).length := rfl
    rw [e1, e2] at hR
    refine W.newcK hx1 hb hown (wd hB hC w1 rfl) (wd hB hC w2 rfl) (wd hB hC w3 rfl) rfl hdg (by omega) (by rw [← hlen]; omega) hKn.2.1 hsz fun H1 kC hkC c1 z1 o1 => ?_
    refine W.cs (cells' := h.2.1 + 1 - z0) (slots' := h.2.2.1 + (tD ci).length - t0) (by omega) (by rw [← hlen]; omega) ?_
    refine k H1 locs ls hL (hS.cons (v := .inr (.inr (some h.2.1))) trivial) (hH.push (n := (tD ci).length) (e1 := eO ci (tD ci)) (tD_ok ci) ⟨q, hq, (u_born ty0 (cl_words (args := args) hB hC hq) (fun w hw => hw) hKn hkC c1 hty).to hdf⟩ (by rw [z1, hsz]) (by rw [hsz]; exact o1)) ⟨by rw [z1, ← hsz]; exact Nat.le_trans hV.1 (Nat.le_succ _), fun u h1 h2 => (o1 u (by rw [← hsz]; exact Nat.lt_of_lt_of_le h1 hV.1)).trans (hV.2.1 u h1 h2), hV.2.2⟩
  · cases hs
theorem sm_newa {t : Jvm.ClassFile.ArrayType} (hx : cx s0 D dA p s m meth c y) (hB : ∀ w ∈ lw_tbl, w.before a0 s0 = true) (hz : z0 ≤ h.2.1 ∧ t0 ≤ h.2.2.1) (hR : h'.2.1 - z0 ≤ R.cells ∧ h'.2.2.1 - t0 ≤ R.slots) (hd : tb y pc = some (.newarray t, 2)) (hs : s_newa t pc L S h = some (pc', L', S', h')) (k : SW p l e R s m args below meth c Q D dA z0 t0 pc' L' S' h') : SW p l e R s m args below meth c Q D dA z0 t0 pc L S h := by
  obtain ⟨hx1, hb, hml, hown, hy, -, -, -, hC, hK⟩ := hx
  have hdg := dcd hy hd
  intro H locs ls hL hS hH hV
  unfold s_newa at hs
  split at hs
  · rename_i n S2
    split at hs
    · rename_i kd hkd
      split at hs
      · rename_i hn
        cases hs
        have hsz := hH.1
        have hri : r32 n := hS.head
        have ecl := clN hri hn.1
        have e1 : (hnew h (eA kd n.toNat (fun _ => 0)) n.toNat).2.1 = h.2.1 + 1 := rfl
        have e2 : (hnew h (eA kd n.toNat (fun _ => 0)) n.toNat).2.2.1 = h.2.2.1 + n.toNat := rfl
        rw [e1, e2] at hR
        have hn0 : ¬ Int32.ofInt n < 0 := fun q => by
          have := (lt32 hri r0).mp q
          omega
        obtain ⟨k2, kt, kb, ko⟩ := at_ok hkd
        refine va_newaK hx1 hb (by rw [kt]; exact at_w hB hC k2) rfl hdg rfl hn0 ecl (Nat.le_trans (Nat.mul_le_mul_left _ kb) (by omega)) (by omega) (by omega) hsz fun H1 cX c1 z1 o1 _ hf => ?_
        rw [kt] at c1 hf
        obtain rfl : cX = dA kd := Option.some.inj (hf.symm.trans (at_cls hK k2))
        refine W.cs (cells' := h.2.1 + 1 - z0) (slots' := h.2.2.1 + n.toNat - t0) (by omega) (by omega) ?_
        have hV1 : va_S (fun q => h.2.2.2.1 ≤ q) s.heap H1 locs := ⟨by rw [z1, ← hsz]; exact Nat.le_trans hV.1 (Nat.le_succ _), fun u h1 h2 => (o1 u (by rw [← hsz]; exact Nat.lt_of_lt_of_le h1 hV.1)).trans (hV.2.1 u h1 h2), hV.2.2⟩
        refine k H1 locs ls hL (hS.tail.cons (v := .inr (.inr (some h.2.1))) trivial) (hH.push (n := n.toNat) (e1 := eA kd n.toNat (fun _ => 0)) ⟨by omega, ko.2⟩ ?_ (by rw [z1, hsz]) (by rw [hsz]; exact o1)) hV1
        show H1[h.2.1]? = some (vp_cell (dA kd) (n.toNat, cA kd (fun _ => 0)))
        rw [nwA k2]
        exact c1
      · cases hs
    · cases hs
  · cases hs
theorem sm_newq {x : Nat} (hx : cx s0 D dA p s m meth c y) (hB : ∀ w ∈ lw_tbl, w.before a0 s0 = true) (hz : z0 ≤ h.2.1 ∧ t0 ≤ h.2.2.1) (hR : h'.2.1 - z0 ≤ R.cells ∧ h'.2.2.1 - t0 ≤ R.slots) (hd : tb y pc = some (.anewarray x, 3)) (hs : s_newq y x pc L S h = some (pc', L', S', h')) (k : SW p l e R s m args below meth c Q D dA z0 t0 pc' L' S' h') : SW p l e R s m args below meth c Q D dA z0 t0 pc L S h := by
  obtain ⟨hx1, hb, hml, hown, hy, -, -, -, hC, hK⟩ := hx
  have hdg := dcd hy hd
  intro H locs ls hL hS hH hV
  unfold s_newq at hs
  split at hs
  · rename_i n S2
    split at hs
    · rename_i ci hci
      split at hs
      · rename_i hn
        cases hs
        obtain ⟨rfl, hn⟩ := hn
        obtain ⟨q, p1, p2, p3, hq, w1, w2, w3, hlen⟩ := tC_ok hci
        cases hq
        have hsz := hH.1
        have hri : r32 n := hS.head
        have ecl := clN hri hn.1
        have e1 : (hnew h (eQ (3 + 0) n.toNat (fun _ => none)) n.toNat).2.1 = h.2.1 + 1 := rfl
        have e2 : (hnew h (eQ (3 + 0) n.toNat (fun _ => none)) n.toNat).2.2.1 = h.2.2.1 + n.toNat := rfl
        rw [e1, e2] at hR
        have hn0 : ¬ Int32.ofInt n < 0 := fun q => by
          have := (lt32 hri r0).mp q
          omega
        refine W.anew hx1 hb hown (wd hB hC w1 rfl) (va_AO.use (wdO hB hC ao_node)) rfl hdg rfl hn0 (by rw [ecl]; omega) (by omega) (by rw [ecl]; omega) fun cX kA comp f1 f2 f3 f4 => ?_
        rw [ecl]
        generalize hH1 : H.push ({ cls := cX, slots := Array.replicate n.toNat .null, vm := .none } : Cell) = H1
        have z1 : H1.size = H.size + 1 := by rw [← hH1, Array.size_push]
        have c1 : H1[H.size]? = some (arrV cX n.toNat (fun _ => .null)) := by rw [← hH1, Array.getElem?_push_size, ← arrV_new]
        have o1 : ∀ q : Nat, q < H.size → H1[q]? = H[q]? := fun q hq => by rw [← hH1, Array.getElem?_push, if_neg (Nat.ne_of_lt hq)]
        obtain ⟨kA2, comp2, k1, k2, k3, k4⟩ := (hK.2 3 _ rfl).2
        obtain rfl : cX = dA 3 := Option.some.inj (f1.symm.trans k4)
        refine W.cs (cells' := h.2.1 + 1 - z0) (slots' := h.2.2.1 + n.toNat - t0) (by omega) (by omega) ?_
        have hV1 : va_S (fun q => h.2.2.2.1 ≤ q) s.heap H1 locs := ⟨by rw [z1]; exact Nat.le_trans hV.1 (Nat.le_succ _), fun u h1 h2 => (o1 u (Nat.lt_of_lt_of_le h1 hV.1)).trans (hV.2.1 u h1 h2), hV.2.2⟩
        rw [hsz]
        refine k H1 locs ls hL (hS.tail.cons (v := .inr (.inr (some h.2.1))) trivial) (hH.push (n := n.toNat) (e1 := eQ (3 + 0) n.toNat (fun _ => none)) ⟨by omega, rfl⟩ ?_ z1 o1) hV1
        show H1[h.2.1]? = some (vp_cell (dA 3) (n.toNat, .inr (.inr (.inr (.inr (fun _ => none))))))
        rw [vp_cell_q, ← hsz]
        exact c1
      · cases hs
    · cases hs
  · cases hs
end SimC
