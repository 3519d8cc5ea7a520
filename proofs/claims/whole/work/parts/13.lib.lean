/-! From AM to the true machine, 5: the library's steps. -/
theorem max32 {x z : Int} (hx : r32 x) (hz : r32 z) : (if Int32.ofInt x < Int32.ofInt z then Int32.ofInt z else Int32.ofInt x) = Int32.ofInt (if x ≤ z then z else x) := by
  by_cases h1 : x < z
  · rw [if_pos ((lt32 hx hz).mpr h1), if_pos (by omega)]
  · rw [if_neg (fun q => h1 ((lt32 hx hz).mp q))]
    by_cases h2 : x = z
    · subst h2; rw [if_pos (by omega)]
    · rw [if_neg (by omega)]
theorem ok_max {x z : Int} (hx : r32 x) (hz : r32 z) : r32 (if x ≤ z then z else x) := by
  split <;> assumption
theorem ok_min {x z : Int} (hx : r32 x) (hz : r32 z) : r32 (if x ≤ z then x else z) := by
  split <;> assumption
section SimD
variable {s0 : State} {a0 : Array Value} {p : Program} {l : Launch} {e : Env} {R : Room} {s : State} {m : MethodId} {args : Array Value} {below : List Frame} {meth : Method} {c : Code} {Q : State → Prop} {D : va_G} {dA : Nat → ClassId} {z0 t0 : Nat}
variable {y : AY} {pc pc' len : Nat} {L S L' S' : List AV} {h h' : AH}
theorem sm_blt {i : Jvm.ClassFile.Instr} (hx : cx s0 D dA p s m meth c y) (hB : ∀ w ∈ lw_tbl, w.before a0 s0 = true) (hl : L.length = y.2.2.2.1) (hR : 1 ≤ R.frames ∧ 56 ≤ R.locals) (hR2 : h.2.1 - z0 ≤ R.cells ∧ h.2.2.1 - t0 ≤ R.slots) (hd : tb y pc = some (i, len)) (hs : blt y i len S h = some (S', h')) (k : SW p l e R s m args below meth c Q D dA z0 t0 (pc + 3) L S' h') : SW p l e R s m args below meth c Q D dA z0 t0 pc L S h := by
  obtain ⟨hx1, hb, hml, hown, hy, -, -, -, hC, hK⟩ := hx
  have hdg := dcd hy hd
  intro H locs ls hL hS hH hV
  have hsz : ls.size = c.maxLocals := by rw [hL.1.1, hl, hml]
  unfold blt at hs
  split at hs
  · rename_i x
    split at hs
    · rename_i hb0
      split at hs
      · rename_i a S2
        split at hs
        · rename_i hw
          cases hs
          have hw2 := wt_cv hS.tail
          rcases tB_ok hb0 with ⟨-, q, hq⟩ | ⟨h1, -⟩ | ⟨h1, -⟩ | ⟨h1, -⟩
          · refine W.objInit hx1 hb hown (wd hB hC hq rfl) (wd hB hC wp_oi rfl) (wd hB hC wp_oc rfl) (g := F0 m pc ls (cv (aR a) :: S'.map cv)) rfl hsz rfl hdg hR.1 (by show 2 * 0 + ((S'.map cv).map fun v => v.category).sum + 12 ≤ R.locals; rw [hw2]; omega) ?_
            exact k H locs ls hL hS.tail hH hV
          · exact absurd h1 (by decide)
          · exact absurd h1 (by decide)
          · exact absurd h1 (by decide)
        · cases hs
      · cases hs
    · cases hs
  · rename_i x
    split at hs
    · rename_i hb0
      split at hs
      · rename_i z u S2
        split at hs
        · rename_i hw
          cases hs
          have hw2 := wt_cv hS.tail.tail
          rcases tB_ok hb0 with ⟨h1, -⟩ | ⟨-, q, hq⟩ | ⟨h1, -⟩ | ⟨h1, -⟩
          · exact absurd h1 (by decide)
          · refine va_mmax hx1 hb hsz.symm hown (wd hB hC hq rfl) (wd hB hC wp_maxs rfl) (wd hB hC wp_mi rfl) (wd hB hC wp_maxc rfl) hR.1 (by rw [hw2]; omega) hR2.1 hR2.2 (x := Int32.ofInt u) (y := Int32.ofInt z) hdg ?_
            rw [max32 hS.tail.head hS.head]
            exact k H locs ls hL (hS.tail.tail.cons (v := .inl _) (ok_max hS.tail.head hS.head)) hH hV
          · exact absurd h1 (by decide)
          · exact absurd h1 (by decide)
        · cases hs
      · cases hs
    · rename_i hb0
      split at hs
      · rename_i z u S2
        split at hs
        · rename_i hw
          cases hs
          have hw2 := wt_cv hS.tail.tail
          rcases tB_ok hb0 with ⟨h1, -⟩ | ⟨h1, -⟩ | ⟨-, q, hq⟩ | ⟨h1, -⟩
          · exact absurd h1 (by decide)
          · exact absurd h1 (by decide)
          · refine va_mmin hx1 hb hsz.symm hown (wd hB hC hq rfl) (wd hB hC wp_mins rfl) (wd hB hC wp_mi rfl) (wd hB hC wp_minc rfl) hR.1 (by rw [hw2]; omega) hR2.1 hR2.2 (x := Int32.ofInt u) (y := Int32.ofInt z) hdg ?_
            have kk := k H locs ls hL (hS.tail.tail.cons (v := .inl _) (ok_min hS.tail.head hS.head)) hH hV
            have hu : r32 u := hS.tail.head
            have hz : r32 z := hS.head
            by_cases h2 : u ≤ z
            · rw [if_pos h2] at kk
              first
                | (rw [if_pos ((le32 hu hz).mpr h2)]; exact kk)
                | (by_cases h3 : z < u
                   · omega
                   · rw [if_neg (fun q => h3 ((lt32 hz hu).mp q))]; exact kk)
            · rw [if_neg h2] at kk
              first
                | (rw [if_neg (fun q => h2 ((le32 hu hz).mp q))]; exact kk)
                | (rw [if_pos ((lt32 hz hu).mpr (by omega))]; exact kk)
          · exact absurd h1 (by decide)
        · cases hs
      · cases hs
    · rename_i hb0
      split at hs
      · rename_i n dp b sp a S2
        split at hs
        · rename_i n0 f hca
          split at hs
          · rename_i n1 g hcb
            split at hs
            · rename_i hg
              cases hs
              obtain ⟨hw, hba, hbb, hne, h1, h2, h3, h4, h5⟩ := hg
              have hw2 := wt_cv hS.tail.tail.tail.tail.tail
              have hrn : r32 n := hS.head
              have hrd : r32 dp := hS.tail.head
              have hrs : r32 sp := hS.tail.tail.tail.head
              obtain ⟨hoa, hata, -⟩ := hH.2.2 a _ hca
              obtain ⟨hob, hatb, -⟩ := hH.2.2 b _ hcb
              have nneg : ∀ {z : Int}, r32 z → 0 ≤ z → ¬ Int32.ofInt z < 0 := fun hz h0 q => by
                have := (lt32 hz r0).mp q
                omega
              have es := clN hrs h1
              have ed := clN hrd h2
              have en := clN hrn h3
              have hc0 : H[a]? = some (vp_cell (dA 1) (n0, .inl (fun j => Int32.ofInt (f j)))) := hata hba
              have hc1 : H[b]? = some (vp_cell (dA 1) (n1, .inl (fun j => Int32.ofInt (g j)))) := hatb hbb
              rcases tB_ok hb0 with ⟨h9, -⟩ | ⟨h9, -⟩ | ⟨h9, -⟩ | ⟨-, q, hq⟩
              · exact absurd h9 (by decide)
              · exact absurd h9 (by decide)
              · exact absurd h9 (by decide)
              · intro T hT X
                obtain ⟨-, k0, hk0, cm0, hkk0⟩ := (hK.2 1 _ rfl).1 n0 (fun j => .int (Int32.ofInt (f j)))
                obtain ⟨-, k1, hk1, cm1, hkk1⟩ := (hK.2 1 _ rfl).1 n1 (fun j => .int (Int32.ofInt (g j)))
                have hrf : ∀ j, r8 (f j) := by
                  rcases hoa.2 with h9 | h9 | h9
                  · exact absurd h9.1 (by decide)
                  · exact h9.2
                  · exact absurd h9.1 (by decide)
                have hrg : ∀ j, r8 (g j) := by
                  rcases hob.2 with h9 | h9 | h9
                  · exact absurd h9.1 (by decide)
                  · exact h9.2
                  · exact absurd h9.1 (by decide)
                have hnf : nativeFrameWords "java/lang/System" "arraycopy" 5 ≤ 37 := by decide
                obtain ⟨vm', X', step⟩ := X.arraycopy hx1 hown (wd hB hC hq rfl) (wd hB hC wp_an rfl) (wd hB hC wp_as rfl) (wd hB hC wp_ai rfl) (src := a) (dst := b) (cs := vp_cell (dA 1) (n0, .inl (fun j => Int32.ofInt (f j)))) (cd := vp_cell (dA 1) (n1, .inl (fun j => Int32.ofInt (g j)))) (srcPos := Int32.ofInt sp) (destPos := Int32.ofInt dp) (n := Int32.ofInt n) (by rw [hT]; exact hc0) (by rw [hT]; exact hc1)
                  (fun _ h => by cases h) (fun _ h => by cases h) (fun h => by cases h) (fun h => by cases h) hk0 hk1 hkk0 hkk1 rfl (nneg hrs h1) (nneg hrd h2) (nneg hrn h3)
                  (by rw [toI hrs, toI hrn]; show ¬ _ > ((arrV (dA 1) n0 (fun j => .int (Int32.ofInt (f j)))).slots.size : Int); rw [arrV_size]; omega)
                  (by rw [toI hrd, toI hrn]; show ¬ _ > ((arrV (dA 1) n1 (fun j => .int (Int32.ofInt (g j)))).slots.size : Int); rw [arrV_size]; omega)
                  (fun vm₁ _ i hi => by
                    rw [en] at hi
                    rw [es]
                    have e9 : (vp_cell (dA 1) (n0, .inl (fun j => Int32.ofInt (f j)))).slots.getD (sp.toNat + i) .null = .int (Int32.ofInt (f (sp.toNat + i))) := by
                      show (arrV (dA 1) n0 (fun j => .int (Int32.ofInt (f j)))).slots.getD _ _ = _
                      rw [Array.getD_eq_getD_getElem?, arrV_read _ _ (by omega)]
                      rfl
                    refine ⟨?_, ?_⟩
                    · rw [e9]
                      have h8 := hrf (sp.toNat + i)
                      have e8 : Int32.ofInt (f (sp.toNat + i)) = (Int32.ofInt (f (sp.toNat + i))).toInt8.toInt32 := by rw [← o8, a8_id h8.1 h8.2]
                      rw [e8]
                      exact pk_fb _
                    · rw [e9]
                      exact trivial)
                  (g := F0 m pc ls (cv (aI n) :: cv (aI dp) :: cv (aR b) :: cv (aI sp) :: cv (aR a) :: S'.map cv)) rfl hsz (rest := S'.map cv) rfl (by rw [hb]; exact hdg) hR.1 (by show 2 * 0 + ((S'.map cv).map fun v => v.category).sum + (nativeFrameWords "java/lang/System" "arraycopy" 5 + 11) ≤ R.locals; rw [hw2]; omega)
                have e1 : copied (vp_cell (dA 1) (n0, .inl (fun j => Int32.ofInt (f j)))) (vp_cell (dA 1) (n1, .inl (fun j => Int32.ofInt (g j)))) (Int32.ofInt sp) (Int32.ofInt dp) (Int32.ofInt n) = vp_cell (dA 1) (n1, .inl (fun j => Int32.ofInt (va_cpy f g sp.toNat dp.toNat n.toNat j))) := by
                  have e0 : copied (vp_cell (dA 1) (n0, .inl (fun j => Int32.ofInt (f j)))) (vp_cell (dA 1) (n1, .inl (fun j => Int32.ofInt (g j)))) (Int32.ofInt sp) (Int32.ofInt dp) (Int32.ofInt n) = vp_cell (dA 1) (n1, .inl (va_cpy (fun j => Int32.ofInt (f j)) (fun j => Int32.ofInt (g j)) (Int32.ofInt sp).toNatClampNeg (Int32.ofInt dp).toNatClampNeg (Int32.ofInt n).toNatClampNeg)) := va_copied (fun z => .int z) (dA 1) (dA 1) (fun j => Int32.ofInt (f j)) (fun j => Int32.ofInt (g j)) (by rw [es, en]; omega)
                  rw [e0, es, ed, en]
                  rw [vp_cell_i, vp_cell_i]
                  congr 1
                  funext j
                  unfold va_cpy
                  split <;> rfl
                rw [e1] at X' step
                have hlb : b < H.size := (Array.getElem?_eq_some_iff.mp hc1).1
                generalize hcell : vp_cell (dA 1) (n1, .inl (fun j => Int32.ofInt (va_cpy f g sp.toNat dp.toNat n.toNat j))) = cell1 at X' step
                have oq : ∀ q : Nat, q ≠ b → (H.setIfInBounds b cell1)[q]? = H[q]? := fun q hq => by simp [Array.getElem?_setIfInBounds, Ne.symm hq]
                have okb : okE (eA 1 n1 (va_cpy f g sp.toNat dp.toNat n.toNat)) := ⟨hob.1, Or.inr (Or.inl ⟨rfl, fun j => by
                  unfold va_cpy
                  split
                  · exact hrf _
                  · exact hrg _⟩)⟩
                have hH1 := hH.set (H1 := H.setIfInBounds b cell1) hbb okb (by
                  show (H.setIfInBounds b cell1)[b]? = some (vp_cell (dA 1) (n1, .inl (fun j => Int32.ofInt (va_cpy f g sp.toNat dp.toNat n.toNat j))))
                  rw [hcell]
                  simp [Array.getElem?_setIfInBounds, hlb]) (by simp) oq
                obtain ⟨t, a1, b1⟩ := k (H.setIfInBounds b cell1) _ ls hL hS.tail.tail.tail.tail.tail hH1 ⟨by simp; exact hV.1, fun q g1 g2 => by
                    rw [oq q (fun e => g2 (by rw [e]; exact hbb))]
                    exact hV.2.1 q g1 g2, fun q hq => by
                    rcases List.mem_append.mp hq with h | h
                    · exact hV.2.2 q h
                    · obtain ⟨z, -, hz⟩ := List.mem_map.mp h
                      rw [← hz]
                      exact hbb⟩ _ (by rw [← hT]; rfl) X'
                exact ⟨t, step t a1, b1⟩
            · cases hs
          · cases hs
        · cases hs
      · cases hs
    · cases hs
  · cases hs
end SimD
