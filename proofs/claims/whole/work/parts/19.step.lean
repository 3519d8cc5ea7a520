/-! From AM to the true machine, 9: any one step; any end. -/
section SimF
variable {s0 : State} {a0 : Array Value} {p : Program} {l : Launch} {e : Env} {R : Room} {s : State} {m : MethodId} {args : Array Value} {below : List Frame} {meth : Method} {c : Code} {Q : State → Prop} {D : va_G} {dA : Nat → ClassId} {z0 t0 : Nat}
variable {y : AY} {d pc pc' len : Nat} {L S L' S' : List AV} {h h' : AH}
theorem sm_stp {i : Jvm.ClassFile.Instr} (hx : cx s0 D dA p s m meth c y) (hB : ∀ w ∈ lw_tbl, w.before a0 s0 = true) (hZ : va_Z "TarYard$Tape" "MARK" "[B" (.ref h.2.2.2.2) (fun q => h.2.2.2.1 ≤ q) s s.heap) (hl : L.length = y.2.2.2.1) (hz : z0 ≤ h.2.1 ∧ t0 ≤ h.2.2.1) (hR : h'.2.1 - z0 ≤ R.cells ∧ h'.2.2.1 - t0 ≤ R.slots) (hd : tb y pc = some (i, len)) (hs : stp y i len pc L S h = some (pc', L', S', h')) (k : SW p l e R s m args below meth c Q D dA z0 t0 pc' L' S' h') : SW p l e R s m args below meth c Q D dA z0 t0 pc L S h := by
  have hs0 := hs
  unfold stp at hs
  split at hs
  all_goals first
    | (exact sm_simple hx hB hd hl rfl hs0 k)
    | (exact sm_get hx hB hd hs k)
    | (exact sm_put hx hB hd hs k)
    | (exact sm_gets hx hB hZ hd hs0 k)
    | (exact sm_new hx hB hz hR hd hs k)
    | (exact sm_newa hx hB hz hR hd hs k)
    | (exact sm_newq hx hB hz hR hd hs k)
    | (exact sm_iald hx hd hs k)
    | (exact sm_bald hx hd hs k)
    | (exact sm_lald hx hd hs k)
    | (exact sm_qld hx hd hs k)
    | (exact sm_len hx hd hs k)
    | (exact sm_iast hx hd hs k)
    | (exact sm_bast hx hd hs k)
    | (exact sm_last hx hd hs k)
    | (exact sm_qst hx hd hs k)
    | (cases hs; done)
theorem W_En {H : Heap} {locs : List Loc} {g : JFrame} {r : AO × AH} (k : W p l e R s m args below meth c H locs (r.2.2.1 - z0) (r.2.2.2.1 - t0) (MQ below (fun _ s o t => HR D dA s r.2 t.heap ∧ oc r.1 o t) args s (r.2.2.1 - z0) (r.2.2.2.1 - t0) (fun q => r.2.2.2.2.1 ≤ q)) g) : W p l e R s m args below meth c H locs (r.2.2.1 - z0) (r.2.2.2.1 - t0) (En D dA s below z0 t0 r) g := by
  intro T hT X
  obtain ⟨t, a, o, b1, b2, b3, L, ⟨_, c1, c2⟩, hL⟩ := k T hT X
  exact ⟨t, a, o, b1, b2, c1, ⟨L, c2, hL⟩, b3.1, b3.2⟩
theorem sm_fin {i : Jvm.ClassFile.Instr} {r : AO × AH} (hx : cx s0 D dA p s m meth c y) (hB : ∀ w ∈ lw_tbl, w.before a0 s0 = true) (hU1 : exU1.before a0 s0 = true) (hU2 : exU2.before a0 s0 = true) (htr : ∀ e : Env, l.admits e → e.platform.stackTraces = false) (hE : (mf y).1 ≠ 4 → ∀ (pc : Nat), ∀ x ∈ c.exceptionTable.toList, covers x pc = false) (hl : L.length = y.2.2.2.1) (hbase : s0.heap.size ≤ h.2.2.2.1) (hz : z0 ≤ h.2.1 ∧ t0 ≤ h.2.2.1) (hR : d + 1 ≤ R.frames ∧ 36 * d + 56 ≤ R.locals) (hR2 : r.2.2.1 - z0 ≤ R.cells ∧ r.2.2.2.1 - t0 ≤ R.slots) (hd : tb y pc = some (i, len)) (hs : fin d y i len pc S h = some r) : SW p l e R s m args below meth c (En D dA s below z0 t0 r) D dA z0 t0 pc L S h := by
  have hx0 := hx
  obtain ⟨hx1, hb, hml, hown, hy, hret, hlk, -, hC, hK⟩ := hx
  have hdg := dcd hy hd
  have hs0 := hs
  unfold fin at hs
  split at hs
  · split at hs
    · rename_i x
      split at hs
      · rename_i ht
        cases hs
        intro H locs ls hL hS hH hV
        have hq : ∀ t : State, t.heap = H → s.WarmedH t.vm → HR D dA s h t.heap ∧ oc (.inl (some (aI x))) (.returned (some (.int (Int32.ofInt x)))) t := fun t ht _ => ⟨by rw [ht]; exact hH, rfl, fun z hz => by cases hz; exact ⟨hS.head, rfl⟩⟩
        rcases ht with ht | ⟨ht, hv⟩
        · exact W_En (r := (.inl (some (aI x)), h)) (W.iret hx1 hb (hret.trans ht) hq hV.2.2 hdg)
        · refine W_En (r := (.inl (some (aI x)), h)) (W.zret (ty := .boolean) hx1 hb (hret.trans ht) ?_ hq hV.2.2 hdg)
          rcases hv with rfl | rfl <;> decide
      · cases hs
    · cases hs
  · split at hs
    · rename_i x
      split at hs
      · rename_i ht
        cases hs
        intro H locs ls hL hS hH hV
        have hq : ∀ t : State, t.heap = H → s.WarmedH t.vm → HR D dA s h t.heap ∧ oc (.inl (some (aL x))) (.returned (some (.long (Int64.ofInt x)))) t := fun t ht _ => ⟨by rw [ht]; exact hH, rfl, fun z hz => by cases hz; exact ⟨hS.head, rfl⟩⟩
        exact W_En (r := (.inl (some (aL x)), h)) (W.lret hx1 hb (hret.trans ht) hq hV.2.2 hdg)
      · cases hs
    · cases hs
  · split at hs
    · rename_i x
      split at hs
      · rename_i ht
        cases hs
        intro H locs ls hL hS hH hV
        have hq : ∀ t : State, t.heap = H → s.WarmedH t.vm → HR D dA s h t.heap ∧ oc (.inl (some (aR x))) (.returned (some (.ref x))) t := fun t ht _ => ⟨by rw [ht]; exact hH, rfl, fun z hz => by cases hz; exact ⟨trivial, rfl⟩⟩
        obtain ⟨rt, hrt, ho⟩ : ∃ rt, y.2.2.2.2.1 = some rt ∧ ((∃ n, rt = .object n) ∨ ∃ t, rt = .array t) := by
          unfold tQ at ht
          split at ht
          · rename_i n hn; exact ⟨_, hn, Or.inl ⟨n, rfl⟩⟩
          · rename_i n hn; exact ⟨_, hn, Or.inr ⟨n, rfl⟩⟩
          · cases ht
        exact W_En (r := (.inl (some (aR x)), h)) (W.aret hx1 hb (hret.trans hrt) ho (Or.inr ⟨x, rfl⟩) hq hV.2.2 hdg)
      · cases hs
    · cases hs
  · split at hs
    · split at hs
      · rename_i ht
        cases hs
        intro H locs ls hL hS hH hV
        have hq : ∀ t : State, t.heap = H → s.WarmedH t.vm → HR D dA s h t.heap ∧ oc (.inl none) (.returned none) t := fun t ht _ => ⟨by rw [ht]; exact hH, rfl, fun z hz => by cases hz⟩
        exact W_En (r := (.inl none, h)) (W.vret hx1 hb (hret.trans ht) hq hV.2.2 hdg)
      · cases hs
    · cases hs
  · have h5 : 5 ≤ d ∧ r = (.inr (r.1.elim (fun _ => (0, 0)) id), hthr h) := by
      split at hs
      · split at hs
        · rename_i hw
          cases hs
          exact ⟨hw.1, rfl⟩
        · cases hs
      · cases hs
    have hr2 : r.2 = hthr h := by rw [h5.2]
    refine sm_throw hx0 hB hU1 hU2 htr hE hl hbase hz ⟨by omega, by omega⟩ ?_ hd hs0 (fun t ht => ht)
    rw [hr2] at hR2
    exact hR2
  · cases hs
end SimF
