/-! From AM to the true machine, 3: instructions that look at the heap. -/
theorem wdA {s0 s : State} {a0 args : Array Value} (hB : ∀ w ∈ lw_tbl, w.before a0 s0 = true) (hC : ct s0 s) {p : Nat} {ty : FieldType} (h : lw_tbl[p]? = some (.arrayClass ty)) : (Jvm.Cond.arrayClass ty).before args s = true :=
  word_at hC.1 (Or.inr ⟨ty, rfl⟩) (hB _ (List.mem_of_getElem? h))
theorem wdO {s0 s : State} {a0 : Array Value} (hB : ∀ w ∈ lw_tbl, w.before a0 s0 = true) (hC : ct s0 s) {p : Nat} {C : String} (h : lw_tbl[p]? = some (.arrayOver (.object C))) : va_AO C s := va_AO.moved hC.1.alike (va_AO.of (hB _ (List.mem_of_getElem? h)))
theorem tF_spec {c i ci k tag : Nat} {fn : Bool} (h : tF c i = some (ci, k, tag, fn)) : ∃ (q : vw_C) (p : Nat), vcl[ci]? = some q ∧ k < q.2.2 ∧ (q.2.1 k).1 = q.1 ∧ (q.2.1 k).2.2.2 = fn ∧ tagok tag (parseFieldDescriptor (q.2.1 k).2.2.1) = true ∧ lw_tbl[p]? = some (.fieldLink (cNm c) i q.1 (q.2.1 k).2.1 (q.2.1 k).2.2.1) := by
  obtain ⟨p, hp⟩ := tF_ok h
  unfold tfB at hp
  split at hp
  · cases hp
  · rename_i q hq
    simp only [Bool.and_eq_true, decide_eq_true_eq] at hp
    exact ⟨q, p, hq, hp.1, hp.2.1, hp.2.2.1, hp.2.2.2.1, hp.2.2.2.2⟩
theorem cl_words {s0 s : State} {a0 args : Array Value} (hB : ∀ w ∈ lw_tbl, w.before a0 s0 = true) (hC : ct s0 s) {ci : Nat} {q : vw_C} (h : vcl[ci]? = some q) : ∀ w ∈ u_ws q.1 q.2.1 q.2.2, w.before args s = true := by
  intro w hw
  obtain ⟨i, hi⟩ := List.getElem?_of_mem ((vcl_all ci q h).2.1 w hw)
  refine wd hB hC hi ?_
  obtain ⟨k, -, rfl⟩ := List.mem_map.mp hw
  unfold u_lay
  split <;> rfl
theorem tag_fit {tag : Nat} {ty : FieldType} {v : AV} (ht : tagok tag (some ty) = true) (hv : a_fit tag v = true) : narrow ty (cv v) = cv v ∧ fits ty (cv v) = true := by
  unfold tagok at ht
  split at ht
  · rename_i e; cases e
    rcases v with _ | x | x | _ | x <;> first | (cases hv; done) | exact ⟨rfl, rfl⟩
  · rename_i e; cases e
    rcases v with _ | x | x | _ | x <;> first | (cases hv; done) | exact ⟨rfl, rfl⟩
  · rename_i e; cases e
    rcases v with _ | x | x | _ | x <;> first | (cases hv; done) | exact ⟨rfl, rfl⟩
  · rename_i e; cases e
    rcases v with _ | x | x | _ | x <;> first | (cases hv; done) | exact ⟨rfl, rfl⟩
  · cases ht
section SimB
variable {s0 : State} {a0 : Array Value} {p : Program} {l : Launch} {e : Env} {R : Room} {s : State} {m : MethodId} {args : Array Value} {below : List Frame} {meth : Method} {c : Code} {Q : State → Prop} {D : va_G} {dA : Nat → ClassId} {z0 t0 : Nat}
variable {y : AY} {pc pc' len : Nat} {L S L' S' : List AV} {h h' : AH}
theorem sm_get {x : Nat} (hx : cx s0 D dA p s m meth c y) (hB : ∀ w ∈ lw_tbl, w.before a0 s0 = true) (hd : tb y pc = some (.getfield x, 3)) (hs : s_get y x pc L S h = some (pc', L', S', h')) (k : SW p l e R s m args below meth c Q D dA z0 t0 pc' L' S' h') : SW p l e R s m args below meth c Q D dA z0 t0 pc L S h := by
  obtain ⟨hx1, hb, hml, hown, hy, -, -, -, hC, hK⟩ := hx
  have hdg := dcd hy hd
  intro H locs ls hL hS hH hV
  unfold s_get at hs
  split at hs
  · rename_i a S2
    split at hs
    · rename_i ci kk tg hf
      split at hs
      · rename_i cc fs hc
        split at hs
        · rename_i hg
          split at hs
          · rename_i v hv
            cases hs
            obtain ⟨rfl, hba⟩ := hg
            obtain ⟨tag, fn⟩ := tg
            obtain ⟨q, w, hq, hk, h1, -, -, hw⟩ := tF_spec hf
            obtain ⟨ho, hat, -⟩ := hH.2.2 a _ hc
            have hP : va_P D vcl [(a, .inr (cc, fs.map cv))] H := fun j u hu => by
              match j, hu with
              | 0, hu => cases hu; exact hat hba
              | j + 1, hu => simp at hu
            refine va_get (D := D) (cl := vcl) (tys := tyl dA) (ci := cc) (C := q.1) (T := q.2.1) (N := q.2.2) (ref := q.1) hx1 hb (cl_words hB hC hq) (fun w hw => hw) hown hK hP 0 rfl hq kk hk (wd hB hC hw rfl) (fun u hu => by rw [h1] at hu; exact hu) (v := cv (some v)) (by rw [List.getElem?_map, hv]; rfl) hdg ?_
            exact k H locs ls hL (hS.tail.cons (ho _ (List.mem_of_getElem? hv)).1) hH hV
          · cases hs
        · cases hs
      · cases hs
    · cases hs
  · cases hs
theorem sm_put {x : Nat} (hx : cx s0 D dA p s m meth c y) (hB : ∀ w ∈ lw_tbl, w.before a0 s0 = true) (hd : tb y pc = some (.putfield x, 3)) (hs : s_put y x pc L S h = some (pc', L', S', h')) (k : SW p l e R s m args below meth c Q D dA z0 t0 pc' L' S' h') : SW p l e R s m args below meth c Q D dA z0 t0 pc L S h := by
  obtain ⟨hx1, hb, hml, hown, hy, -, -, hinit, hC, hK⟩ := hx
  have hdg := dcd hy hd
  intro H locs ls hL hS hH hV
  unfold s_put at hs
  split at hs
  · rename_i v a S2
    split at hs
    · rename_i ci kk tag fn hf
      split at hs
      · rename_i cc fs hc
        split at hs
        · rename_i hg
          cases hs
          obtain ⟨rfl, hba, hlen, hfit, hfin⟩ := hg
          obtain ⟨q, w, hq, hk, h1, h2, htag, hw⟩ := tF_spec hf
          obtain ⟨ho, hat, -⟩ := hH.2.2 a _ hc
          obtain ⟨hn, hin, hnm, ty0, hty, -⟩ := vcl_all cc q hq
          have hts := cl_words (args := args) hB hC hq
          have hap := va_apart (own := cNm y.2.1) (ci := cc) (C := q.1) (T := q.2.1) (N := q.2.2) hts (fun w hw => hw) ty0 hty hnm hK hq
          obtain ⟨r, hr1, cell, q1, q2, q3, q4⟩ := hat hba
          have hr : r = q := Option.some.inj (hr1.symm.trans hq)
          subst hr
          obtain ⟨hSl, hfc, kC, hkC, hkind⟩ := hK.1 cc _ hq
          obtain ⟨cf, kf, fi, f, hi, hsl⟩ := hSl kk hk
          have hlay := hts _ (u_in_lay hk)
          have hst := (u_facts hfc hkC (u_lays hts (fun w hw => hw) hk) hi).1
          have hsame : s.fieldFound? r.1 (r.2.1 kk).2.1 (r.2.1 kk).2.2.1 = some (cf, kf, fi, f) := by rw [← hi, h1]
          rw [hty kk hk] at htag
          obtain ⟨hnar, hfi⟩ := tag_fit htag hfit
          have okE' : okE (eO cc (fs.set kk v)) := by
            intro u hu
            rcases List.mem_or_eq_of_mem_set hu with h3 | h3
            · exact ho u h3
            · rw [h3]; exact hS v List.mem_cons_self
          have fin2 : ∀ (H' : Heap) (lc : List Loc), va_S (fun q => h.2.2.2.1 ≤ q) s.heap H' lc → H'[a]? = some (cell.setSlot (D.2 cc kk) (cv v)) → H'.size = H.size → (∀ q : Nat, q ≠ a → H'[q]? = H[q]?) → W p l e R s m args below meth c H' lc (h.2.1 - z0) (h.2.2.1 - t0) Q (F0 m (pc + 3) ls (S'.map cv)) := by
            intro H' lc hV' e1 e2 e3
            refine k H' lc ls hL hS.tail.tail (hH.set (e1 := eO cc (fs.set kk v)) hba okE' ⟨r, hq, ?_⟩ e2 e3) hV'
            show t_OB a (D.1 cc) r.2.2 (D.2 cc) H' (vp_V ((fs.set kk v).map cv))
            rw [List.map_set]
            exact t_OB.to (V := updV (vp_V (fs.map cv)) kk (cv v)) ⟨_, e1, q2, q3, t_set q4 hap hk (cv v)⟩ (fun j _ => vp_updV_set (by rw [List.length_map]; exact hlen) (cv v) j)
          cases fn with
          | false =>
            unfold u_lay at hlay
            rw [if_neg (by rw [h2]; decide)] at hlay
            have h6 := u_store hfc hkC hkind hlay hi (hty kk hk) hnar hfi
            refine W.putK hx1 hb (f := f) ⟨hown, wd hB hC hw rfl, ⟨_, _, _, hsame⟩, hst⟩ (by rw [q2]; exact h6) q1 q3 (by rw [hsl]; exact k2_hasslot (q4 kk hk)) rfl rfl hdg fun H' e1 e2 e3 => ?_
            rw [hsl] at e1
            exact fin2 H' _ (hV.put e2 e3 hba) e1 e2 e3
          | true =>
            unfold u_lay at hlay
            rw [if_pos h2] at hlay
            have hin2 := hinit (hfin rfl).1
            have hcf : m.cls = cf := by
              obtain ⟨_, _, c', _, _, _, -, -, hf', -, -, -, hown2, -⟩ := Cond.laysFinal_spec hlay
              have e1 : c' = cf := by have := hi.symm.trans hf'; simp at this; exact this.1.symm
              have e2 : (r.2.1 kk).1 = cNm y.2.1 := by rw [h1, hn (by omega), (hfin rfl).2]
              rw [e2] at hown2
              rw [← e1]; exact Option.some.inj (hown.symm.trans hown2)
            have h6 := u_fits hfc hkC hkind (Or.inr hlay) hi (hty kk hk) hnar hfi
            refine W.putFinK hx1 hb hown (wd hB hC hw rfl) hsame hst hcf hin2 (by rw [q2]; exact h6) q1 q3 (by rw [hsl]; exact k2_hasslot (q4 kk hk)) rfl rfl hdg fun H' e1 e2 e3 => ?_
            rw [hsl] at e1
            exact fin2 H' _ (hV.put e2 e3 hba) e1 e2 e3
        · cases hs
      · cases hs
    · cases hs
  · cases hs
end SimB
