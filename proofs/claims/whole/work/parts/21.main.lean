/-! From AM to the true machine, 11: the whole simulation. -/
section SimH
variable {s0 : State} {a0 : Array Value} {l : Launch} {D : va_G} {dA : Nat → ClassId}
variable {p : Program} {e : Env} {R : Room} {s : State} {m : MethodId} {args : Array Value} {below : List Frame} {meth : Method} {c : Code} {z0 t0 : Nat}
variable {y z : AY} {n d pc len : Nat} {L S As rest : List AV} {h : AH} {r r1 : AO × AH}
theorem wdF {s0 s : State} {a0 args : Array Value} (hB : ∀ w ∈ lw_tbl, w.before a0 s0 = true) (hC : ct s0 s) {p : Nat} {w : Jvm.Cond} (h : lw_tbl[p]? = some w) (hk : (w.onTables && w.keepsFace) = true) : w.before args s = true := by
  simp only [Bool.and_eq_true] at hk
  exact va_tabs (u := s0.setVm s.vm) hk.1 rfl (Cond.before_shiftedFace (State.Shifted.of_warmed hC.1) w hk.2 (hB w (List.mem_of_getElem? h)))
theorem SK.take {S : List AV} (h : SK S) (n : Nat) : SK (S.take n) := fun v hv => h v (List.mem_of_mem_take hv)
theorem SK.drop {S : List AV} (h : SK S) (n : Nat) : SK (S.drop n) := fun v hv => h v (List.mem_of_mem_drop hv)
theorem SK.rev {S : List AV} (h : SK S) : SK S.reverse := fun v hv => h v (List.mem_reverse.mp hv)
theorem vir5 : ∀ y ∈ allY, y.2.1 = 5 → (mf y).1 ≠ 0 := by decide +kernel
theorem vcl_pos {ci : Nat} {q : vw_C} (h : vcl[ci]? = some q) (h5 : ci ≠ 5) : 0 < q.2.2 := by
  match ci, h with
  | 0, h => cases h; decide
  | 1, h => cases h; decide
  | 2, h => cases h; decide
  | 3, h => cases h; decide
  | 4, h => cases h; decide
  | 5, h => exact absurd rfl h5
  | 6, h => cases h; decide
  | 7, h => cases h; decide
  | 8, h => cases h; decide
  | n + 9, h => simp [vcl] at h
theorem hinit : ∀ y ∈ allY, (mf y).1 = 1 → y.2.2.2.2.2 = true ∧ y.2.2.2.2.1 = none := by decide +kernel
set_option maxHeartbeats 4000000 in
theorem sm_cal (ih : SimAt s0 l D dA n) (hB : ∀ w ∈ lw_tbl, w.before a0 s0 = true) (hXR : exR s0) (hx : cx s0 D dA p s m meth c y) (hTb : Tbl y c) (hl : L.length = y.2.2.2.1) (hbase : s0.heap.size ≤ h.2.2.2.1) (hbs : h.2.2.2.1 ≤ s.heap.size) (hZ : va_Z "TarYard$Tape" "MARK" "[B" (.ref h.2.2.2.2) (fun q => h.2.2.2.1 ≤ q) s s.heap) (hz : z0 ≤ h.2.1 ∧ t0 ≤ h.2.2.1) (hR : d + 1 ≤ R.frames ∧ 36 * d + 56 ≤ R.locals) (hR2 : r.2.2.1 - z0 ≤ R.cells ∧ r.2.2.2.1 - t0 ≤ R.slots)
    {i : Jvm.ClassFile.Instr} (hd : tb y pc = some (i, len)) (hs : cal y i len S h = some (z, As, rest)) (hle : lv z ≤ d) (hg : go n (d - lv z) z 0 (ent z As) [] h = some r1) (ha : aft (go n) d y pc L rest r1 = some r) : SW p l e R s m args below meth c (En D dA s below z0 t0 r) D dA z0 t0 pc L S h := by
  have hx0 := hx
  obtain ⟨hx1, hb, hml, hown, hy, hret, hlk, -, hC, hK⟩ := hx
  have hdg := dcd hy hd
  unfold cal at hs
  split at hs
  · rename_i x
    split at hs
    · rename_i nn z' hm
      split at hs
      · rename_i a rest' hdr
        split at hs
        · rename_i ci fs hc
          split at hs
          · rename_i hcond
            cases hs
            obtain ⟨hci, hba, htl, hw, hspr, hsome⟩ := hcond
            subst hci
            obtain ⟨hzA, hk0, -, -, -, hnn, q, hq⟩ := tM_ok hm
            have hk0 : (mf z).1 = 0 := hk0 rfl
            have hmf := mf_all z hzA
            intro H locs ls hL hS hH hV T hT X
            have hst : S = S.take nn ++ aR a :: rest := by rw [← hdr]; exact (List.take_append_drop nn S).symm
            have hSr : SK rest := by have := hS.drop nn; rw [hdr] at this; exact this.tail
            have hSa : okv (aR a) := trivial
            have hA : SK (aR a :: (S.take nn).reverse) := (hS.take nn).rev.cons (v := .inr (.inr (some a))) trivial
            obtain ⟨-, hat, -⟩ := hH.2.2 a _ hc
            obtain ⟨rv, hrv, hOB⟩ := hat hba
            have hqL : lw_tbl[q]? = some (.methodLink (cNm y.2.1) x (nm z)) := by
              rcases hq with h | h
              · exact h
              · exact absurd (show (0 : Nat) = 1 from h.1) (by decide)
            have hcl := (hK.1 z.2.1 rv hrv).2.1
            have hvn := (vcl_all z.2.1 rv hrv).1 (vcl_pos hrv (fun h5 => absurd hk0 (vir5 z hzA h5)))
            obtain ⟨cell, hc1, hc2, hc3, -⟩ := hOB
            have hcls : s.vm.findClass (nm z).cls = some cell.cls := by rw [hmf.1, ← hvn, hc2]; exact hcl
            have hdesc : ∀ meth2 mk2, s.methodNamed? (nm z) = some mk2 → s.vm.method? mk2 = some meth2 → parseMethodDescriptor (nm z).desc = some meth2.sig := fun meth2 mk2 h1 h2 => by
              obtain ⟨meth', c', g1, -, -, -, -, -, g2, -⟩ := cw_spec (args := args) h1 (wd hB hC (cw_at hzA (Or.inl hk0)) (cw_ok z))
              cases h2.symm.trans g1
              exact g2
            have hnn : nn = (mf z).2.2.2.2.2 := hnn
            obtain ⟨vm₁, mk, hW1, X1, hn, hstep⟩ := inV X hx1 (own := cNm y.2.1) (index := x) (x := nm z) hown (wd hB hC hqL rfl) (wd hB hC (hmf.2.2.2.2.2.2.2.1 (Or.inl hk0)) rfl) (wdF hB hC (hmf.2.2.2.2.2.2.2.2.2.1 hk0) rfl) hmf.2.2.1 (n := nn) (by rw [hnn]; exact hmf.2.2.2.1)
              (b := a) (cellB := cell) (by rw [hT]; exact hc1) (by rw [hc3]; rfl) hcls (g := F0 m pc ls (S.map cv)) rfl (As := ((S.take nn).reverse).map cv) (rest := rest.map cv) (by simpa using htl) (by
                show S.map cv = _
                rw [← List.map_reverse, List.reverse_reverse]
                conv => lhs; rw [hst]
                rw [List.map_append]
                rfl) (by rw [hb]; exact hdg) hdesc
            obtain ⟨t, a1, b1⟩ := cal_tail ih hB hXR hx0 hTb hl hbase hbs hZ hz hR hR2 hd rfl hzA (Or.inl hk0) hle hg ha hw hspr hL hSr hA hH hV (T := T.setVm vm₁) hT X1 hn
            exact ⟨t, hstep t a1, b1⟩
          · cases hs
        · cases hs
      · cases hs
    · cases hs
  · rename_i x
    split at hs
    · rename_i nn z' hm
      split at hs
      · rename_i a rest' hdr
        split at hs
        · rename_i hcond
          cases hs
          obtain ⟨htl, hw, hspr, hsome⟩ := hcond
          obtain ⟨hzA, -, hk0, -, -, hnn, q, hq⟩ := tM_ok hm
          have hk0 : (mf z).1 = 1 := hk0 rfl
          have hmf := mf_all z hzA
          intro H locs ls hL hS hH hV T hT X
          have hst : S = S.take nn ++ aR a :: rest := by rw [← hdr]; exact (List.take_append_drop nn S).symm
          have hSr : SK rest := by have := hS.drop nn; rw [hdr] at this; exact this.tail
          have hA : SK (aR a :: (S.take nn).reverse) := (hS.take nn).rev.cons (v := .inr (.inr (some a))) trivial
          have hnn : nn = (mf z).2.2.2.2.2 := hnn
          have hini : (nm z).name = "<init>" := hmf.2.2.2.2.1.mpr (hinit z hzA hk0).1
          have hlk2 : (Cond.methodLink (cNm y.2.1) x (nm z)).before args s = true ∨ (Cond.methodLinkNest (cNm y.2.1) x (nm z) "TarYard").before args s = true := by
            rcases hq with h | h
            · exact Or.inl (wd hB hC h rfl)
            · exact Or.inr (wd hB hC h.2 rfl)
          have hcode := hmf.2.2.2.2.2.2.1 (Or.inr (Or.inl hk0))
          rw [(hinit z hzA hk0).2] at hcode
          obtain ⟨vm₁, mk, hW1, X1, hn, hstep⟩ := inI X hx1 (own := cNm y.2.1) (host := "TarYard") (index := x) (x := nm z) hown hini hlk2 (wd hB hC (hmf.2.2.2.2.2.2.2.1 (Or.inr hk0)) rfl) (wd hB hC hcode rfl) hmf.2.2.1 (n := nn) (by rw [hnn]; exact hmf.2.2.2.1)
            (g := F0 m pc ls (S.map cv)) rfl (a := a) (As := ((S.take nn).reverse).map cv) (rest := rest.map cv) (by simpa using htl) (by
                show S.map cv = _
                rw [← List.map_reverse, List.reverse_reverse]
                conv => lhs; rw [hst]
                rw [List.map_append]
                rfl) (by rw [hb]; exact hdg)
          obtain ⟨t, a1, b1⟩ := cal_tail ih hB hXR hx0 hTb hl hbase hbs hZ hz hR hR2 hd rfl hzA (Or.inr (Or.inl hk0)) hle hg ha hw hspr hL hSr hA hH hV (T := T.setVm vm₁) hT X1 hn
          exact ⟨t, hstep t a1, b1⟩
        · cases hs
      · cases hs
    · cases hs
  · rename_i x
    split at hs
    · rename_i nn z' hm
      split at hs
      · rename_i hcond
        cases hs
        obtain ⟨htl, hw, hspr, hsome⟩ := hcond
        obtain ⟨hzA, -, -, hk0, -, hnn, q, hq⟩ := tM_ok hm
        have hk0 : (mf z).1 = 2 ∨ (mf z).1 = 4 := hk0 rfl
        have hk4 : mk4 z := by
          rcases hk0 with h | h
          · exact Or.inr (Or.inr (Or.inl h))
          · exact Or.inr (Or.inr (Or.inr h))
        have hm3 : (mf z).1 ≠ 3 := by omega
        have hmf := mf_all z hzA
        intro H locs ls hL hS hH hV T hT X
        have hSr : SK (S.drop nn) := hS.drop nn
        have hA : SK (S.take nn).reverse := (hS.take nn).rev
        have hnn : nn = (mf z).2.2.2.2.2 := hnn
        have hqL : lw_tbl[q]? = some (.methodLink (cNm y.2.1) x (nm z)) := by
          rcases hq with h | h
          · exact h
          · exact absurd (show (2 : Nat) = 1 from h.1) (by decide)
        have hstat : (Cond.static (nm z)).before args s = true := wd hB hC (hmf.2.2.2.2.2.2.2.2.1 hk0) rfl
        obtain ⟨mk, methM, hnamed, hmethM, hsigM⟩ : ∃ mk methM, s.methodNamed? (nm z) = some mk ∧ s.vm.method? mk = some methM ∧ parseMethodDescriptor (nm z).desc = some methM.sig := by
          obtain ⟨mk, hmk⟩ : ∃ mk, s.methodNamed? (nm z) = some mk := by
            cases hmm : s.methodNamed? (nm z) with
            | some mk => exact ⟨mk, rfl⟩
            | none => simp [Cond.before, Cond.holds, Cond.value, hmm] at hstat
          obtain ⟨meth', c', g1, -, -, -, -, -, g2, -⟩ := cw_spec (args := args) hmk (wd hB hC (cw_at hzA hk4) (cw_ok z))
          exact ⟨mk, meth', hmk, g1, g2⟩
        obtain ⟨vm₁, hW1, X1, hn, hstep⟩ := inS X hx1 (own := cNm y.2.1) (index := x) (x := nm z) hown (wd hB hC hqL rfl) hstat (wd hB hC (hmf.2.2.2.2.2.2.2.2.2.2 hm3) rfl) hmf.2.2.1 (n := nn) (by rw [hnn]; exact hmf.2.2.2.1) hnamed hmethM hsigM
            (g := F0 m pc ls (S.map cv)) rfl (As := ((S.take nn).reverse).map cv) (rest := (S.drop nn).map cv) (by simpa using htl) (by
                show S.map cv = _
                rw [← List.map_reverse, List.reverse_reverse, ← List.map_append, List.take_append_drop]) (by rw [hb]; exact hdg)
        obtain ⟨t, a1, b1⟩ := cal_tail ih hB hXR hx0 hTb hl hbase hbs hZ hz hR hR2 hd rfl hzA hk4 hle hg ha hw hspr hL hSr hA hH hV (T := T.setVm vm₁) hT X1 hn
        exact ⟨t, hstep t a1, b1⟩
      · cases hs
    · cases hs
  · cases hs
/-- the whole: what AM does, the machine does -/
theorem sim (hB : ∀ w ∈ lw_tbl, w.before a0 s0 = true) (hU1 : exU1.before a0 s0 = true) (hU2 : exU2.before a0 s0 = true) (hXR : exR s0) (htr : ∀ e : Env, l.admits e → e.platform.stackTraces = false) : ∀ n : Nat, SimAt s0 l D dA n := by
  intro n
  induction n with
  | zero => intro d y pc L S h r hgo; cases hgo
  | succ n ih =>
    intro d y pc L S h r hgo p e R s m args below meth c z0 t0 hx hTb hl hbase hbs hZ hz hR hR2
    have hgo : gob (go n) d y pc L S h = some r := hgo
    unfold gob at hgo
    cases hd : tb y pc with
    | none => simp only [hd] at hgo; cases hgo
    | some il =>
      obtain ⟨i, len⟩ := il
      simp only [hd] at hgo
      cases hf : fin d y i len pc S h with
      | some q =>
        simp only [hf] at hgo
        cases hgo
        exact sm_fin hx hB hU1 hU2 htr hTb.1 hl hbase hz hR hR2 hd hf
      | none =>
        simp only [hf] at hgo
        cases hc : cal y i len S h with
        | some q =>
          obtain ⟨z, As, rest⟩ := q
          simp only [hc] at hgo
          split at hgo
          · rename_i hle
            cases hg : go n (d - lv z) z 0 (ent z As) [] h with
            | none => rw [hg] at hgo; cases hgo
            | some r1 =>
              rw [hg] at hgo
              exact sm_cal ih hB hXR hx hTb hl hbase hbs hZ hz hR hR2 hd hc hle hg hgo
          · cases hgo
        | none =>
          simp only [hc] at hgo
          cases hb : blt y i len S h with
          | some q =>
            obtain ⟨S', h'⟩ := q
            simp only [hb] at hgo
            have mo := blt_mor hb
            have mo2 := go_mor _ _ _ _ _ _ _ _ hgo
            have m1 := mo.1
            have m2 := mo.2.1
            have m3 := mo.2.2
            have m4 := mo2.1
            have m5 := mo2.2.1
            refine sm_blt hx hB hl ⟨by omega, by omega⟩ ⟨by omega, by omega⟩ hd hb ?_
            exact ih d y (pc + 3) L S' h' r hgo p e R s m args below meth c z0 t0 hx hTb hl (by rw [m3]; exact hbase) (by rw [m3]; exact hbs) (by rw [m3]; exact hZ) ⟨by omega, by omega⟩ hR hR2
          | none =>
            simp only [hb] at hgo
            cases hs : stp y i len pc L S h with
            | none => simp only [hs] at hgo; cases hgo
            | some q =>
              obtain ⟨pc', L', S', h'⟩ := q
              simp only [hs] at hgo
              obtain ⟨mo, hl'⟩ := stp_mor hs
              have mo2 := go_mor _ _ _ _ _ _ _ _ hgo
              have m1 := mo.1
              have m2 := mo.2.1
              have m3 := mo.2.2
              have m4 := mo2.1
              have m5 := mo2.2.1
              refine sm_stp hx hB hZ hl hz ⟨by omega, by omega⟩ hd hs ?_
              exact ih d y pc' L' S' h' r hgo p e R s m args below meth c z0 t0 hx hTb (hl'.trans hl) (by rw [m3]; exact hbase) (by rw [m3]; exact hbs) (by rw [m3]; exact hZ) ⟨by omega, by omega⟩ hR hR2
end SimH
