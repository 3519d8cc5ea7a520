/-! TarYard: fill, contents, set, remove, alter, check, size, hand, place, node, part, total, write. -/
section TY2C
variable {K : KE} {h : AH} {g : Nat → Nat} {st s F : CS} {cb sb : Nat} {d t x : Nat} {c : Int} {v v' : Option AV}
def fiOK (st : CS) (t : Nat) (node w n : Int) : Prop := hs st t node ∧ ((st.2.1 (st.2.2.1 t node.toNat) 0) = 1 ∨ (st.2.1 (st.2.2.1 t node.toNat) 0) = 2) ∧ (0 ≤ n ∧ n ≤ 8) ∧ ((st.2.1 (st.2.2.1 t node.toNat) 0) = 2 → tgt (addl [] w n))
def fiM (st : CS) (t : Nat) (node : Int) : Int := if (st.2.1 (st.2.2.1 t node.toNat) 0) = 1 then 2000 else 100
noncomputable def fiC (st : CS) (t : Nat) (node w n : Int) : Int := pk (fiOK st t node w n) (pk (fiM st t node < ((st.1 (2 * st.2.2.1 t node.toNat + 1))).length + n) 2 0) 1
def fiL (st : CS) (t : Nat) (node w n : Int) : List Int := addl ((st.1 (2 * st.2.2.1 t node.toNat + 1))) w n
def fiF (st : CS) (t : Nat) (node w n : Int) : CS := uR st (2 * st.2.2.1 t node.toNat + 1) (fiL st t node w n)
theorem c_fill (hd7 : 7 ≤ d) (hT : TI st t) (hW : WC K h g st cb sb) (ht : t < 2) (ht0 : st.2.2.2.2.2 0 = (t : Int)) (node w n : Int) : Cal d yTY_fill [aR (g 533), aI node, aL w, aI n] h (RO (fiC st t node w n) (some (aI (fiL st t node w n).length)) (PO K g (if fiC st t node w n = 0 then fiF st t node w n else st) t cb sb)) := by
  have hcn := hW.cnt ht
  have hsh := hW.shq
  show Go _ _ 0 [aR (g 533), aI node, aL w, none, aI n, none] [] _ _
  by_cases hh : hs st t node
  · have hh1 := hh.1
    have hh2 := hh.2
    obtain ⟨i, rfl⟩ : ∃ i : Nat, node = i := ⟨node.toNat, by omega⟩
    have hiC : i < (st.2.2.2.1 t) := by omega
    have hpm := hW.pm ht (i := i) (by omega)
    have hbd := hT.b i hiC
    have hkd := hT.k i hiC
    have hnl : (fiL st t (i : Int) w n).length = ((st.1 (2 * st.2.2.1 t i + 1))).length + n.toNat := addl_len _ _ _
    refine g_aload_n rfl rfl ?_
    refine g_iload_n rfl rfl ?_
    refine g_V (z := yTY_known) (e := 1) (A := [aI ((i : Int))]) (rest := []) (v := aR (g (400 + st.2.2.1 t i))) (P := fun h2 => h2 = h) rfl rfl rfl rfl rfl rfl (by omega) (hW.ty ht0 ht) hW.tyb (c_known (by omega) hW ht ht0 hiC) ?_
    intro hh9 he9
    rw [he9]
    clear he9 hh9
    refine g_astore (L' := [aR (g 533), aI ((i : Int)), aL w, none, aI n, aR (g (400 + st.2.2.1 t i))]) rfl rfl ?_
    refine g_aload rfl rfl ?_
    refine g_get (ci := 0) (kk := 2) rfl rfl (hW.node hpm) (hW.nodeb hpm) rfl ?_
    refine g_iconst (n := 1) rfl (by decide) ?_
    refine g_icmpeq rfl rfl (fun c1 => ?_) (fun c1 => ?_)
    · skip
      have kk : (st.2.1 (st.2.2.1 t i) 0) = 1 ∨ (st.2.1 (st.2.2.1 t i) 0) = 2 := Or.inl c1
      refine g_iload rfl rfl ?_
      refine g_iflt rfl rfl (fun c2 => ?_) (fun c2 => ?_)
      · skip
        have hc : fiC st t (i : Int) w n = 1 := pk_f (fun q => by obtain ⟨q1, q2, q3, q4⟩ := q; omega)
        exact g_throw rfl rfl (by omega) (Nat.le_of_ble_eq_true rfl) (e_t1 hc hW (SE.rf _ _))
      · skip
        refine g_iload rfl rfl ?_
        refine g_bipush (n := 8) rfl (by decide) ?_
        refine g_icmple rfl rfl (fun c3 => ?_) (fun c3 => ?_)
        · skip
          refine g_aload_n rfl rfl ?_
          refine g_get (ci := 7) (kk := 3) rfl rfl (hW.ty ht0 ht) hW.tyb rfl ?_
          refine g_iconst (n := 0) rfl (by decide) ?_
          refine g_Vn (z := yRw_resize) (e := 1) (A := [aI 0]) (rest := [])  rfl rfl rfl rfl rfl rfl (by omega) (hW.row (by omega)) (hW.rowb (by omega)) (c_resize (by omega) hW (r := 120) (by omega) _) ?_
          intro hh4 hW
          rw [rsz_0] at hW
          have hbl : ((st.1 (2 * st.2.2.1 t i + 1))).length ≤ 2000 := by have b1 := hbd.1; have b2 := hbd.2.1; exact kk.elim b1 (fun q => by have := b2 q; omega)
          refine g_aload_n rfl rfl ?_
          refine g_get (ci := 7) (kk := 3) rfl rfl (hW.ty ht0 ht) hW.tyb rfl ?_
          refine g_lload_n rfl rfl ?_
          refine g_iload rfl rfl ?_
          refine g_Vn (z := yRw_addLetters) (e := 1) (A := [aI n, aL w]) (rest := [])  rfl rfl rfl rfl rfl rfl (by omega) (hW.row (by omega)) (hW.rowb (by omega)) (c_addLetters (by omega) hW (r := 120) (by omega) w n (by omega) (by omega) (by rw [uR_get]; simp only [List.length_nil]; omega)) ?_
          intro hh5 hW
          have hW : WC K hh5 g (uR st 120 (addl [] w n)) cb sb := by
            rw [uR_uR, uR_get] at hW
            exact hW
          have hb2 : (uR st 120 (addl [] w n)).1 (2 * st.2.2.1 t i + 1) = (st.1 (2 * st.2.2.1 t i + 1)) := uR_ne _ _ (by omega)
          have hb3 : ((uR st 120 (addl [] w n)).1 (2 * st.2.2.1 t i + 1)).length = ((st.1 (2 * st.2.2.1 t i + 1))).length := by rw [hb2]
          refine g_aload rfl rfl ?_
          refine g_get (ci := 0) (kk := 2) rfl rfl (hW.node hpm) (hW.nodeb hpm) rfl ?_
          refine g_iconst (n := 2) rfl (by decide) ?_
          refine g_icmpne rfl rfl (fun c6 => ?_) (fun c6 => ?_)
          · skip
            have z4 : (st.2.1 (st.2.2.1 t i) 0) = 2 → tgt (addl [] w n) := fun q => absurd q c6
            refine g_aload rfl rfl ?_
            refine g_get (ci := 0) (kk := 1) rfl rfl (hW.node hpm) (hW.nodeb hpm) rfl ?_
            refine g_get (ci := 2) (kk := 1) rfl rfl (hW.row (by omega)) (hW.rowb (by omega)) rfl ?_
            refine g_iload rfl rfl ?_
            refine g_iadd rfl (by omega) ?_
            refine g_aload rfl rfl ?_
            refine g_get (ci := 0) (kk := 2) rfl rfl (hW.node hpm) (hW.nodeb hpm) rfl ?_
            refine g_iconst (n := 1) rfl (by decide) ?_
            refine g_icmpne rfl rfl (fun c7 => ?_) (fun c7 => ?_)
            · skip
              have hm : fiM st t (i : Int) = 100 := if_neg c7
              refine g_bipush (n := 100) rfl (by decide) ?_
              refine g_icmple rfl rfl (fun c8 => ?_) (fun c8 => ?_)
              · skip
                have hok : fiOK st t (i : Int) w n := ⟨hh, kk, ⟨by omega, by omega⟩, z4⟩
                have hc : fiC st t (i : Int) w n = 0 := (pk_t hok).trans (pk_f (by rw [hm]; show ¬ _ < (((st.1 (2 * st.2.2.1 t i + 1))).length : Int) + n; omega))
                refine g_aload rfl rfl ?_
                refine g_get (ci := 0) (kk := 1) rfl rfl (hW.node hpm) (hW.nodeb hpm) rfl ?_
                refine g_lload_n rfl rfl ?_
                refine g_iload rfl rfl ?_
                refine g_Vn (z := yRw_addLetters) (e := 1) (A := [aI n, aL w]) (rest := [])  rfl rfl rfl rfl rfl rfl (by omega) (hW.row (by omega)) (hW.rowb (by omega)) (c_addLetters (by omega) hW (r := 2 * st.2.2.1 t i + 1) (by omega) w n (by omega) (by omega) (by rw [hb2]; omega)) ?_
                intro hh9 hW
                rw [hb2] at hW
                have hW : WC K hh9 g (uR (uR st 120 (addl [] w n)) (2 * st.2.2.1 t i + 1) (fiL st t (i : Int) w n)) cb sb := hW
                have e9 : ((uR (uR st 120 (addl [] w n)) (2 * st.2.2.1 t i + 1) (fiL st t (i : Int) w n)).1 (2 * st.2.2.1 t i + 1)).length = (fiL st t (i : Int) w n).length := by rw [uR_get]
                refine g_aload rfl rfl ?_
                refine g_get (ci := 0) (kk := 1) rfl rfl (hW.node hpm) (hW.nodeb hpm) rfl ?_
                refine g_get (ci := 2) (kk := 1) rfl rfl (hW.row (by omega)) (hW.rowb (by omega)) rfl ?_
                exact g_ireturn rfl rfl (e_ok hc (congrArg (fun z : Nat => some (aI (z : Int))) e9) hW (SE.row hsh ht (r := 2 * st.2.2.1 t i + 1) (by omega) _ _))
              · skip
                have hok : fiOK st t (i : Int) w n := ⟨hh, kk, ⟨by omega, by omega⟩, z4⟩
                have hc : fiC st t (i : Int) w n = 2 := (pk_t hok).trans (pk_t (by rw [hm]; show _ < (((st.1 (2 * st.2.2.1 t i + 1))).length : Int) + n; omega))
                exact g_throw rfl rfl (by omega) (Nat.le_of_ble_eq_true rfl) (e_t2 hc hW (SE.word hsh ht _))
            · skip
              have hm : fiM st t (i : Int) = 2000 := if_pos c7
              refine g_sipush (n := 2000) rfl (by decide) ?_
              refine g_goto rfl rfl ?_
              refine g_icmple rfl rfl (fun c10 => ?_) (fun c10 => ?_)
              · skip
                have hok : fiOK st t (i : Int) w n := ⟨hh, kk, ⟨by omega, by omega⟩, z4⟩
                have hc : fiC st t (i : Int) w n = 0 := (pk_t hok).trans (pk_f (by rw [hm]; show ¬ _ < (((st.1 (2 * st.2.2.1 t i + 1))).length : Int) + n; omega))
                refine g_aload rfl rfl ?_
                refine g_get (ci := 0) (kk := 1) rfl rfl (hW.node hpm) (hW.nodeb hpm) rfl ?_
                refine g_lload_n rfl rfl ?_
                refine g_iload rfl rfl ?_
                refine g_Vn (z := yRw_addLetters) (e := 1) (A := [aI n, aL w]) (rest := [])  rfl rfl rfl rfl rfl rfl (by omega) (hW.row (by omega)) (hW.rowb (by omega)) (c_addLetters (by omega) hW (r := 2 * st.2.2.1 t i + 1) (by omega) w n (by omega) (by omega) (by rw [hb2]; omega)) ?_
                intro hh11 hW
                rw [hb2] at hW
                have hW : WC K hh11 g (uR (uR st 120 (addl [] w n)) (2 * st.2.2.1 t i + 1) (fiL st t (i : Int) w n)) cb sb := hW
                have e9 : ((uR (uR st 120 (addl [] w n)) (2 * st.2.2.1 t i + 1) (fiL st t (i : Int) w n)).1 (2 * st.2.2.1 t i + 1)).length = (fiL st t (i : Int) w n).length := by rw [uR_get]
                refine g_aload rfl rfl ?_
                refine g_get (ci := 0) (kk := 1) rfl rfl (hW.node hpm) (hW.nodeb hpm) rfl ?_
                refine g_get (ci := 2) (kk := 1) rfl rfl (hW.row (by omega)) (hW.rowb (by omega)) rfl ?_
                exact g_ireturn rfl rfl (e_ok hc (congrArg (fun z : Nat => some (aI (z : Int))) e9) hW (SE.row hsh ht (r := 2 * st.2.2.1 t i + 1) (by omega) _ _))
              · skip
                have hok : fiOK st t (i : Int) w n := ⟨hh, kk, ⟨by omega, by omega⟩, z4⟩
                have hc : fiC st t (i : Int) w n = 2 := (pk_t hok).trans (pk_t (by rw [hm]; show _ < (((st.1 (2 * st.2.2.1 t i + 1))).length : Int) + n; omega))
                exact g_throw rfl rfl (by omega) (Nat.le_of_ble_eq_true rfl) (e_t2 hc hW (SE.word hsh ht _))
          · skip
            have k2 : (st.2.1 (st.2.2.1 t i) 0) = 2 := c6
            refine g_aload_n rfl rfl ?_
            refine g_get (ci := 7) (kk := 3) rfl rfl (hW.ty ht0 ht) hW.tyb rfl ?_
            refine g_V (z := yRw_isTarget) (e := 1) (A := []) (rest := []) (v := aI (pz (tgt ((uR st 120 (addl [] w n)).1 120)))) (P := fun h2 => h2 = hh5) rfl rfl rfl rfl rfl rfl (by omega) (hW.row (by omega)) (hW.rowb (by omega)) (c_isTarget (by omega) hW (r := 120) (by omega)) ?_
            intro hh9 he9
            rw [he9]
            clear he9 hh9
            refine g_ifne rfl rfl (fun c12 => ?_) (fun c12 => ?_)
            · skip
              have z4 : (st.2.1 (st.2.2.1 t i) 0) = 2 → tgt (addl [] w n) := fun _ => by have q := pz_ne c12; rw [uR_get] at q; exact q
              refine g_aload rfl rfl ?_
              refine g_get (ci := 0) (kk := 1) rfl rfl (hW.node hpm) (hW.nodeb hpm) rfl ?_
              refine g_get (ci := 2) (kk := 1) rfl rfl (hW.row (by omega)) (hW.rowb (by omega)) rfl ?_
              refine g_iload rfl rfl ?_
              refine g_iadd rfl (by omega) ?_
              refine g_aload rfl rfl ?_
              refine g_get (ci := 0) (kk := 2) rfl rfl (hW.node hpm) (hW.nodeb hpm) rfl ?_
              refine g_iconst (n := 1) rfl (by decide) ?_
              refine g_icmpne rfl rfl (fun c13 => ?_) (fun c13 => ?_)
              · skip
                have hm : fiM st t (i : Int) = 100 := if_neg c13
                refine g_bipush (n := 100) rfl (by decide) ?_
                refine g_icmple rfl rfl (fun c14 => ?_) (fun c14 => ?_)
                · skip
                  have hok : fiOK st t (i : Int) w n := ⟨hh, kk, ⟨by omega, by omega⟩, z4⟩
                  have hc : fiC st t (i : Int) w n = 0 := (pk_t hok).trans (pk_f (by rw [hm]; show ¬ _ < (((st.1 (2 * st.2.2.1 t i + 1))).length : Int) + n; omega))
                  refine g_aload rfl rfl ?_
                  refine g_get (ci := 0) (kk := 1) rfl rfl (hW.node hpm) (hW.nodeb hpm) rfl ?_
                  refine g_lload_n rfl rfl ?_
                  refine g_iload rfl rfl ?_
                  refine g_Vn (z := yRw_addLetters) (e := 1) (A := [aI n, aL w]) (rest := [])  rfl rfl rfl rfl rfl rfl (by omega) (hW.row (by omega)) (hW.rowb (by omega)) (c_addLetters (by omega) hW (r := 2 * st.2.2.1 t i + 1) (by omega) w n (by omega) (by omega) (by rw [hb2]; omega)) ?_
                  intro hh15 hW
                  rw [hb2] at hW
                  have hW : WC K hh15 g (uR (uR st 120 (addl [] w n)) (2 * st.2.2.1 t i + 1) (fiL st t (i : Int) w n)) cb sb := hW
                  have e9 : ((uR (uR st 120 (addl [] w n)) (2 * st.2.2.1 t i + 1) (fiL st t (i : Int) w n)).1 (2 * st.2.2.1 t i + 1)).length = (fiL st t (i : Int) w n).length := by rw [uR_get]
                  refine g_aload rfl rfl ?_
                  refine g_get (ci := 0) (kk := 1) rfl rfl (hW.node hpm) (hW.nodeb hpm) rfl ?_
                  refine g_get (ci := 2) (kk := 1) rfl rfl (hW.row (by omega)) (hW.rowb (by omega)) rfl ?_
                  exact g_ireturn rfl rfl (e_ok hc (congrArg (fun z : Nat => some (aI (z : Int))) e9) hW (SE.row hsh ht (r := 2 * st.2.2.1 t i + 1) (by omega) _ _))
                · skip
                  have hok : fiOK st t (i : Int) w n := ⟨hh, kk, ⟨by omega, by omega⟩, z4⟩
                  have hc : fiC st t (i : Int) w n = 2 := (pk_t hok).trans (pk_t (by rw [hm]; show _ < (((st.1 (2 * st.2.2.1 t i + 1))).length : Int) + n; omega))
                  exact g_throw rfl rfl (by omega) (Nat.le_of_ble_eq_true rfl) (e_t2 hc hW (SE.word hsh ht _))
              · skip
                have hm : fiM st t (i : Int) = 2000 := if_pos c13
                refine g_sipush (n := 2000) rfl (by decide) ?_
                refine g_goto rfl rfl ?_
                refine g_icmple rfl rfl (fun c16 => ?_) (fun c16 => ?_)
                · skip
                  have hok : fiOK st t (i : Int) w n := ⟨hh, kk, ⟨by omega, by omega⟩, z4⟩
                  have hc : fiC st t (i : Int) w n = 0 := (pk_t hok).trans (pk_f (by rw [hm]; show ¬ _ < (((st.1 (2 * st.2.2.1 t i + 1))).length : Int) + n; omega))
                  refine g_aload rfl rfl ?_
                  refine g_get (ci := 0) (kk := 1) rfl rfl (hW.node hpm) (hW.nodeb hpm) rfl ?_
                  refine g_lload_n rfl rfl ?_
                  refine g_iload rfl rfl ?_
                  refine g_Vn (z := yRw_addLetters) (e := 1) (A := [aI n, aL w]) (rest := [])  rfl rfl rfl rfl rfl rfl (by omega) (hW.row (by omega)) (hW.rowb (by omega)) (c_addLetters (by omega) hW (r := 2 * st.2.2.1 t i + 1) (by omega) w n (by omega) (by omega) (by rw [hb2]; omega)) ?_
                  intro hh17 hW
                  rw [hb2] at hW
                  have hW : WC K hh17 g (uR (uR st 120 (addl [] w n)) (2 * st.2.2.1 t i + 1) (fiL st t (i : Int) w n)) cb sb := hW
                  have e9 : ((uR (uR st 120 (addl [] w n)) (2 * st.2.2.1 t i + 1) (fiL st t (i : Int) w n)).1 (2 * st.2.2.1 t i + 1)).length = (fiL st t (i : Int) w n).length := by rw [uR_get]
                  refine g_aload rfl rfl ?_
                  refine g_get (ci := 0) (kk := 1) rfl rfl (hW.node hpm) (hW.nodeb hpm) rfl ?_
                  refine g_get (ci := 2) (kk := 1) rfl rfl (hW.row (by omega)) (hW.rowb (by omega)) rfl ?_
                  exact g_ireturn rfl rfl (e_ok hc (congrArg (fun z : Nat => some (aI (z : Int))) e9) hW (SE.row hsh ht (r := 2 * st.2.2.1 t i + 1) (by omega) _ _))
                · skip
                  have hok : fiOK st t (i : Int) w n := ⟨hh, kk, ⟨by omega, by omega⟩, z4⟩
                  have hc : fiC st t (i : Int) w n = 2 := (pk_t hok).trans (pk_t (by rw [hm]; show _ < (((st.1 (2 * st.2.2.1 t i + 1))).length : Int) + n; omega))
                  exact g_throw rfl rfl (by omega) (Nat.le_of_ble_eq_true rfl) (e_t2 hc hW (SE.word hsh ht _))
            · skip
              have q9 := pz_eq c12
              rw [uR_get] at q9
              have hc : fiC st t (i : Int) w n = 1 := pk_f (fun q => by obtain ⟨q1, q2, q3, q4⟩ := q; exact q9 (q4 k2))
              exact g_throw rfl rfl (by omega) (Nat.le_of_ble_eq_true rfl) (e_t1 hc hW (SE.word hsh ht _))
        · skip
          have hc : fiC st t (i : Int) w n = 1 := pk_f (fun q => by obtain ⟨q1, q2, q3, q4⟩ := q; omega)
          exact g_throw rfl rfl (by omega) (Nat.le_of_ble_eq_true rfl) (e_t1 hc hW (SE.rf _ _))
    · skip
      refine g_aload rfl rfl ?_
      refine g_get (ci := 0) (kk := 2) rfl rfl (hW.node hpm) (hW.nodeb hpm) rfl ?_
      refine g_iconst (n := 2) rfl (by decide) ?_
      refine g_icmpeq rfl rfl (fun c18 => ?_) (fun c18 => ?_)
      · skip
        have kk : (st.2.1 (st.2.2.1 t i) 0) = 1 ∨ (st.2.1 (st.2.2.1 t i) 0) = 2 := Or.inr c18
        refine g_iload rfl rfl ?_
        refine g_iflt rfl rfl (fun c19 => ?_) (fun c19 => ?_)
        · skip
          have hc : fiC st t (i : Int) w n = 1 := pk_f (fun q => by obtain ⟨q1, q2, q3, q4⟩ := q; omega)
          exact g_throw rfl rfl (by omega) (Nat.le_of_ble_eq_true rfl) (e_t1 hc hW (SE.rf _ _))
        · skip
          refine g_iload rfl rfl ?_
          refine g_bipush (n := 8) rfl (by decide) ?_
          refine g_icmple rfl rfl (fun c20 => ?_) (fun c20 => ?_)
          · skip
            refine g_aload_n rfl rfl ?_
            refine g_get (ci := 7) (kk := 3) rfl rfl (hW.ty ht0 ht) hW.tyb rfl ?_
            refine g_iconst (n := 0) rfl (by decide) ?_
            refine g_Vn (z := yRw_resize) (e := 1) (A := [aI 0]) (rest := [])  rfl rfl rfl rfl rfl rfl (by omega) (hW.row (by omega)) (hW.rowb (by omega)) (c_resize (by omega) hW (r := 120) (by omega) _) ?_
            intro hh21 hW
            rw [rsz_0] at hW
            have hbl : ((st.1 (2 * st.2.2.1 t i + 1))).length ≤ 2000 := by have b1 := hbd.1; have b2 := hbd.2.1; exact kk.elim b1 (fun q => by have := b2 q; omega)
            refine g_aload_n rfl rfl ?_
            refine g_get (ci := 7) (kk := 3) rfl rfl (hW.ty ht0 ht) hW.tyb rfl ?_
            refine g_lload_n rfl rfl ?_
            refine g_iload rfl rfl ?_
            refine g_Vn (z := yRw_addLetters) (e := 1) (A := [aI n, aL w]) (rest := [])  rfl rfl rfl rfl rfl rfl (by omega) (hW.row (by omega)) (hW.rowb (by omega)) (c_addLetters (by omega) hW (r := 120) (by omega) w n (by omega) (by omega) (by rw [uR_get]; simp only [List.length_nil]; omega)) ?_
            intro hh22 hW
            have hW : WC K hh22 g (uR st 120 (addl [] w n)) cb sb := by
              rw [uR_uR, uR_get] at hW
              exact hW
            have hb2 : (uR st 120 (addl [] w n)).1 (2 * st.2.2.1 t i + 1) = (st.1 (2 * st.2.2.1 t i + 1)) := uR_ne _ _ (by omega)
            have hb3 : ((uR st 120 (addl [] w n)).1 (2 * st.2.2.1 t i + 1)).length = ((st.1 (2 * st.2.2.1 t i + 1))).length := by rw [hb2]
            refine g_aload rfl rfl ?_
            refine g_get (ci := 0) (kk := 2) rfl rfl (hW.node hpm) (hW.nodeb hpm) rfl ?_
            refine g_iconst (n := 2) rfl (by decide) ?_
            refine g_icmpne rfl rfl (fun c23 => ?_) (fun c23 => ?_)
            · skip
              have z4 : (st.2.1 (st.2.2.1 t i) 0) = 2 → tgt (addl [] w n) := fun q => absurd q c23
              refine g_aload rfl rfl ?_
              refine g_get (ci := 0) (kk := 1) rfl rfl (hW.node hpm) (hW.nodeb hpm) rfl ?_
              refine g_get (ci := 2) (kk := 1) rfl rfl (hW.row (by omega)) (hW.rowb (by omega)) rfl ?_
              refine g_iload rfl rfl ?_
              refine g_iadd rfl (by omega) ?_
              refine g_aload rfl rfl ?_
              refine g_get (ci := 0) (kk := 2) rfl rfl (hW.node hpm) (hW.nodeb hpm) rfl ?_
              refine g_iconst (n := 1) rfl (by decide) ?_
              refine g_icmpne rfl rfl (fun c24 => ?_) (fun c24 => ?_)
              · skip
                have hm : fiM st t (i : Int) = 100 := if_neg c24
                refine g_bipush (n := 100) rfl (by decide) ?_
                refine g_icmple rfl rfl (fun c25 => ?_) (fun c25 => ?_)
                · skip
                  have hok : fiOK st t (i : Int) w n := ⟨hh, kk, ⟨by omega, by omega⟩, z4⟩
                  have hc : fiC st t (i : Int) w n = 0 := (pk_t hok).trans (pk_f (by rw [hm]; show ¬ _ < (((st.1 (2 * st.2.2.1 t i + 1))).length : Int) + n; omega))
                  refine g_aload rfl rfl ?_
                  refine g_get (ci := 0) (kk := 1) rfl rfl (hW.node hpm) (hW.nodeb hpm) rfl ?_
                  refine g_lload_n rfl rfl ?_
                  refine g_iload rfl rfl ?_
                  refine g_Vn (z := yRw_addLetters) (e := 1) (A := [aI n, aL w]) (rest := [])  rfl rfl rfl rfl rfl rfl (by omega) (hW.row (by omega)) (hW.rowb (by omega)) (c_addLetters (by omega) hW (r := 2 * st.2.2.1 t i + 1) (by omega) w n (by omega) (by omega) (by rw [hb2]; omega)) ?_
                  intro hh26 hW
                  rw [hb2] at hW
                  have hW : WC K hh26 g (uR (uR st 120 (addl [] w n)) (2 * st.2.2.1 t i + 1) (fiL st t (i : Int) w n)) cb sb := hW
                  have e9 : ((uR (uR st 120 (addl [] w n)) (2 * st.2.2.1 t i + 1) (fiL st t (i : Int) w n)).1 (2 * st.2.2.1 t i + 1)).length = (fiL st t (i : Int) w n).length := by rw [uR_get]
                  refine g_aload rfl rfl ?_
                  refine g_get (ci := 0) (kk := 1) rfl rfl (hW.node hpm) (hW.nodeb hpm) rfl ?_
                  refine g_get (ci := 2) (kk := 1) rfl rfl (hW.row (by omega)) (hW.rowb (by omega)) rfl ?_
                  exact g_ireturn rfl rfl (e_ok hc (congrArg (fun z : Nat => some (aI (z : Int))) e9) hW (SE.row hsh ht (r := 2 * st.2.2.1 t i + 1) (by omega) _ _))
                · skip
                  have hok : fiOK st t (i : Int) w n := ⟨hh, kk, ⟨by omega, by omega⟩, z4⟩
                  have hc : fiC st t (i : Int) w n = 2 := (pk_t hok).trans (pk_t (by rw [hm]; show _ < (((st.1 (2 * st.2.2.1 t i + 1))).length : Int) + n; omega))
                  exact g_throw rfl rfl (by omega) (Nat.le_of_ble_eq_true rfl) (e_t2 hc hW (SE.word hsh ht _))
              · skip
                have hm : fiM st t (i : Int) = 2000 := if_pos c24
                refine g_sipush (n := 2000) rfl (by decide) ?_
                refine g_goto rfl rfl ?_
                refine g_icmple rfl rfl (fun c27 => ?_) (fun c27 => ?_)
                · skip
                  have hok : fiOK st t (i : Int) w n := ⟨hh, kk, ⟨by omega, by omega⟩, z4⟩
                  have hc : fiC st t (i : Int) w n = 0 := (pk_t hok).trans (pk_f (by rw [hm]; show ¬ _ < (((st.1 (2 * st.2.2.1 t i + 1))).length : Int) + n; omega))
                  refine g_aload rfl rfl ?_
                  refine g_get (ci := 0) (kk := 1) rfl rfl (hW.node hpm) (hW.nodeb hpm) rfl ?_
                  refine g_lload_n rfl rfl ?_
                  refine g_iload rfl rfl ?_
                  refine g_Vn (z := yRw_addLetters) (e := 1) (A := [aI n, aL w]) (rest := [])  rfl rfl rfl rfl rfl rfl (by omega) (hW.row (by omega)) (hW.rowb (by omega)) (c_addLetters (by omega) hW (r := 2 * st.2.2.1 t i + 1) (by omega) w n (by omega) (by omega) (by rw [hb2]; omega)) ?_
                  intro hh28 hW
                  rw [hb2] at hW
                  have hW : WC K hh28 g (uR (uR st 120 (addl [] w n)) (2 * st.2.2.1 t i + 1) (fiL st t (i : Int) w n)) cb sb := hW
                  have e9 : ((uR (uR st 120 (addl [] w n)) (2 * st.2.2.1 t i + 1) (fiL st t (i : Int) w n)).1 (2 * st.2.2.1 t i + 1)).length = (fiL st t (i : Int) w n).length := by rw [uR_get]
                  refine g_aload rfl rfl ?_
                  refine g_get (ci := 0) (kk := 1) rfl rfl (hW.node hpm) (hW.nodeb hpm) rfl ?_
                  refine g_get (ci := 2) (kk := 1) rfl rfl (hW.row (by omega)) (hW.rowb (by omega)) rfl ?_
                  exact g_ireturn rfl rfl (e_ok hc (congrArg (fun z : Nat => some (aI (z : Int))) e9) hW (SE.row hsh ht (r := 2 * st.2.2.1 t i + 1) (by omega) _ _))
                · skip
                  have hok : fiOK st t (i : Int) w n := ⟨hh, kk, ⟨by omega, by omega⟩, z4⟩
                  have hc : fiC st t (i : Int) w n = 2 := (pk_t hok).trans (pk_t (by rw [hm]; show _ < (((st.1 (2 * st.2.2.1 t i + 1))).length : Int) + n; omega))
                  exact g_throw rfl rfl (by omega) (Nat.le_of_ble_eq_true rfl) (e_t2 hc hW (SE.word hsh ht _))
            · skip
              have k2 : (st.2.1 (st.2.2.1 t i) 0) = 2 := c23
              refine g_aload_n rfl rfl ?_
              refine g_get (ci := 7) (kk := 3) rfl rfl (hW.ty ht0 ht) hW.tyb rfl ?_
              refine g_V (z := yRw_isTarget) (e := 1) (A := []) (rest := []) (v := aI (pz (tgt ((uR st 120 (addl [] w n)).1 120)))) (P := fun h2 => h2 = hh22) rfl rfl rfl rfl rfl rfl (by omega) (hW.row (by omega)) (hW.rowb (by omega)) (c_isTarget (by omega) hW (r := 120) (by omega)) ?_
              intro hh9 he9
              rw [he9]
              clear he9 hh9
              refine g_ifne rfl rfl (fun c29 => ?_) (fun c29 => ?_)
              · skip
                have z4 : (st.2.1 (st.2.2.1 t i) 0) = 2 → tgt (addl [] w n) := fun _ => by have q := pz_ne c29; rw [uR_get] at q; exact q
                refine g_aload rfl rfl ?_
                refine g_get (ci := 0) (kk := 1) rfl rfl (hW.node hpm) (hW.nodeb hpm) rfl ?_
                refine g_get (ci := 2) (kk := 1) rfl rfl (hW.row (by omega)) (hW.rowb (by omega)) rfl ?_
                refine g_iload rfl rfl ?_
                refine g_iadd rfl (by omega) ?_
                refine g_aload rfl rfl ?_
                refine g_get (ci := 0) (kk := 2) rfl rfl (hW.node hpm) (hW.nodeb hpm) rfl ?_
                refine g_iconst (n := 1) rfl (by decide) ?_
                refine g_icmpne rfl rfl (fun c30 => ?_) (fun c30 => ?_)
                · skip
                  have hm : fiM st t (i : Int) = 100 := if_neg c30
                  refine g_bipush (n := 100) rfl (by decide) ?_
                  refine g_icmple rfl rfl (fun c31 => ?_) (fun c31 => ?_)
                  · skip
                    have hok : fiOK st t (i : Int) w n := ⟨hh, kk, ⟨by omega, by omega⟩, z4⟩
                    have hc : fiC st t (i : Int) w n = 0 := (pk_t hok).trans (pk_f (by rw [hm]; show ¬ _ < (((st.1 (2 * st.2.2.1 t i + 1))).length : Int) + n; omega))
                    refine g_aload rfl rfl ?_
                    refine g_get (ci := 0) (kk := 1) rfl rfl (hW.node hpm) (hW.nodeb hpm) rfl ?_
                    refine g_lload_n rfl rfl ?_
                    refine g_iload rfl rfl ?_
                    refine g_Vn (z := yRw_addLetters) (e := 1) (A := [aI n, aL w]) (rest := [])  rfl rfl rfl rfl rfl rfl (by omega) (hW.row (by omega)) (hW.rowb (by omega)) (c_addLetters (by omega) hW (r := 2 * st.2.2.1 t i + 1) (by omega) w n (by omega) (by omega) (by rw [hb2]; omega)) ?_
                    intro hh32 hW
                    rw [hb2] at hW
                    have hW : WC K hh32 g (uR (uR st 120 (addl [] w n)) (2 * st.2.2.1 t i + 1) (fiL st t (i : Int) w n)) cb sb := hW
                    have e9 : ((uR (uR st 120 (addl [] w n)) (2 * st.2.2.1 t i + 1) (fiL st t (i : Int) w n)).1 (2 * st.2.2.1 t i + 1)).length = (fiL st t (i : Int) w n).length := by rw [uR_get]
                    refine g_aload rfl rfl ?_
                    refine g_get (ci := 0) (kk := 1) rfl rfl (hW.node hpm) (hW.nodeb hpm) rfl ?_
                    refine g_get (ci := 2) (kk := 1) rfl rfl (hW.row (by omega)) (hW.rowb (by omega)) rfl ?_
                    exact g_ireturn rfl rfl (e_ok hc (congrArg (fun z : Nat => some (aI (z : Int))) e9) hW (SE.row hsh ht (r := 2 * st.2.2.1 t i + 1) (by omega) _ _))
                  · skip
                    have hok : fiOK st t (i : Int) w n := ⟨hh, kk, ⟨by omega, by omega⟩, z4⟩
                    have hc : fiC st t (i : Int) w n = 2 := (pk_t hok).trans (pk_t (by rw [hm]; show _ < (((st.1 (2 * st.2.2.1 t i + 1))).length : Int) + n; omega))
                    exact g_throw rfl rfl (by omega) (Nat.le_of_ble_eq_true rfl) (e_t2 hc hW (SE.word hsh ht _))
                · skip
                  have hm : fiM st t (i : Int) = 2000 := if_pos c30
                  refine g_sipush (n := 2000) rfl (by decide) ?_
                  refine g_goto rfl rfl ?_
                  refine g_icmple rfl rfl (fun c33 => ?_) (fun c33 => ?_)
                  · skip
                    have hok : fiOK st t (i : Int) w n := ⟨hh, kk, ⟨by omega, by omega⟩, z4⟩
                    have hc : fiC st t (i : Int) w n = 0 := (pk_t hok).trans (pk_f (by rw [hm]; show ¬ _ < (((st.1 (2 * st.2.2.1 t i + 1))).length : Int) + n; omega))
                    refine g_aload rfl rfl ?_
                    refine g_get (ci := 0) (kk := 1) rfl rfl (hW.node hpm) (hW.nodeb hpm) rfl ?_
                    refine g_lload_n rfl rfl ?_
                    refine g_iload rfl rfl ?_
                    refine g_Vn (z := yRw_addLetters) (e := 1) (A := [aI n, aL w]) (rest := [])  rfl rfl rfl rfl rfl rfl (by omega) (hW.row (by omega)) (hW.rowb (by omega)) (c_addLetters (by omega) hW (r := 2 * st.2.2.1 t i + 1) (by omega) w n (by omega) (by omega) (by rw [hb2]; omega)) ?_
                    intro hh34 hW
                    rw [hb2] at hW
                    have hW : WC K hh34 g (uR (uR st 120 (addl [] w n)) (2 * st.2.2.1 t i + 1) (fiL st t (i : Int) w n)) cb sb := hW
                    have e9 : ((uR (uR st 120 (addl [] w n)) (2 * st.2.2.1 t i + 1) (fiL st t (i : Int) w n)).1 (2 * st.2.2.1 t i + 1)).length = (fiL st t (i : Int) w n).length := by rw [uR_get]
                    refine g_aload rfl rfl ?_
                    refine g_get (ci := 0) (kk := 1) rfl rfl (hW.node hpm) (hW.nodeb hpm) rfl ?_
                    refine g_get (ci := 2) (kk := 1) rfl rfl (hW.row (by omega)) (hW.rowb (by omega)) rfl ?_
                    exact g_ireturn rfl rfl (e_ok hc (congrArg (fun z : Nat => some (aI (z : Int))) e9) hW (SE.row hsh ht (r := 2 * st.2.2.1 t i + 1) (by omega) _ _))
                  · skip
                    have hok : fiOK st t (i : Int) w n := ⟨hh, kk, ⟨by omega, by omega⟩, z4⟩
                    have hc : fiC st t (i : Int) w n = 2 := (pk_t hok).trans (pk_t (by rw [hm]; show _ < (((st.1 (2 * st.2.2.1 t i + 1))).length : Int) + n; omega))
                    exact g_throw rfl rfl (by omega) (Nat.le_of_ble_eq_true rfl) (e_t2 hc hW (SE.word hsh ht _))
              · skip
                have q9 := pz_eq c29
                rw [uR_get] at q9
                have hc : fiC st t (i : Int) w n = 1 := pk_f (fun q => by obtain ⟨q1, q2, q3, q4⟩ := q; exact q9 (q4 k2))
                exact g_throw rfl rfl (by omega) (Nat.le_of_ble_eq_true rfl) (e_t1 hc hW (SE.word hsh ht _))
          · skip
            have hc : fiC st t (i : Int) w n = 1 := pk_f (fun q => by obtain ⟨q1, q2, q3, q4⟩ := q; omega)
            exact g_throw rfl rfl (by omega) (Nat.le_of_ble_eq_true rfl) (e_t1 hc hW (SE.rf _ _))
      · skip
        have k1 : (st.2.1 (st.2.2.1 t i) 0) ≠ 1 := by assumption
        have k2 : (st.2.1 (st.2.2.1 t i) 0) ≠ 2 := c18
        have hc : fiC st t (i : Int) w n = 1 := pk_f (fun q => by obtain ⟨q1, q2, q3, q4⟩ := q; exact q2.elim k1 k2)
        exact g_throw rfl rfl (by omega) (Nat.le_of_ble_eq_true rfl) (e_t1 hc hW (SE.rf _ _))
  · have hc : fiC st t node w n = 1 := pk_f (fun q => hh q.1)
    refine g_aload_n rfl rfl ?_
    refine g_iload_n rfl rfl ?_
    exact g_Vt (z := yTY_known) (e := 1) (A := [aI node]) (rest := []) (P := fun h2 => h2 = hthr h) rfl rfl rfl rfl rfl rfl (by omega) (hW.ty ht0 ht) hW.tyb rfl (c_knownT (by omega) hW ht ht0 hh) (fun h2 hp => by subst hp; exact e_t1 hc hW (SE.rf _ _))
def ctL (len seed : Int) : List Int := oF len.toNat (fun j => a8 (seed + 31 * j))
def ctX (q : Nat → Int) (len seed i : Int) : List Int := oF len.toNat (fun j => if (j : Int) < i then a8 (seed + 31 * j) else q j)
theorem ct_loop {j : Nat} (hj : j < 60) (len seed : Int) (h0 : 0 ≤ len) (h1 : len ≤ 2000) (h2 : 0 ≤ seed) (h3 : seed ≤ 255) (q : Nat → Int) (nd : Int) (hc : c = 0) (hF : F = uR st (2 * j + 1) (ctL len seed)) : ∀ (n : Nat) (i : Int) (h : AH), 0 ≤ i → i ≤ len → (len - i).toNat ≤ n → WC K h g (uR st (2 * j + 1) (ctX q len seed i)) cb sb → Go (d + 1) yTY_contents 70 [aR (g 533), aI nd, aI len, aI seed, aR (g (400 + j)), aI i] [] h (RO c none (PO K g (if c = 0 then F else st) t cb sb)) := by
  subst hF
  intro n
  induction n with
  | zero =>
    intro i h a0 a1 a2 hW
    obtain rfl : i = len := by omega
    have e : ctX q i seed i = ctL i seed := oF_ext fun k hk => if_pos (by omega)
    rw [e] at hW
    refine g_iload rfl rfl ?_
    refine g_iload_n rfl rfl ?_
    refine g_icmpge rfl rfl (fun c1 => ?_) (fun c => absurd c (by omega))
    exact g_return rfl rfl (e_ok hc rfl hW (SE.rf _ _))
  | succ n ih =>
    intro i h a0 a1 a2 hW
    by_cases hlt : i < len
    · skip
      refine g_iload rfl rfl ?_
      refine g_iload_n rfl rfl ?_
      refine g_icmpge rfl rfl (fun c => absurd c (by omega)) (fun c1 => ?_)
      refine g_aload rfl rfl ?_
      refine g_get (ci := 0) (kk := 1) rfl rfl (hW.node hj) (hW.nodeb hj) rfl ?_
      refine g_iload rfl rfl ?_
      refine g_iload_n rfl rfl ?_
      refine g_bipush (n := 31) rfl (by decide) ?_
      refine g_iload rfl rfl ?_
      refine g_imul rfl (by omega) ?_
      refine g_iadd rfl (by omega) ?_
      refine g_Vn (z := yRw_put) (e := 1) (A := [aI (seed + (31 * i)), aI i]) (rest := [])  rfl rfl rfl rfl rfl rfl (by omega) (hW.row (by omega)) (hW.rowb (by omega)) (c_put hW (r := 2 * j + 1) (by omega) _ _) ?_
      intro hh2 hW
      have hW : WC K hh2 g (uR st (2 * j + 1) (ctX q len seed (i + 1))) cb sb := by
        rw [uR_uR, uR_get] at hW
        have e : rput (ctX q len seed i) i (seed + 31 * i) = ctX q len seed (i + 1) := by
          unfold ctX
          rw [rput_oF a0 (by omega)]
          refine oF_ext fun k hk => ?_
          unfold va_up
          by_cases z : k = i.toNat
          · rw [if_pos z, if_pos (by omega), show ((k : Nat) : Int) = i by omega]
          · rw [if_neg z]
            dsimp only
            by_cases z2 : (k : Int) < i
            · rw [if_pos z2, if_pos (by omega)]
            · rw [if_neg z2, if_neg (by omega)]
        rw [e] at hW
        exact hW
      refine g_iinc (L' := [aR (g 533), aI nd, aI len, aI seed, aR (g (400 + j)), aI (i + 1)]) rfl rfl (by omega) rfl ?_
      refine g_goto rfl rfl ?_
      exact ih (i + 1) _ (by omega) (by omega) (by omega) hW
    · obtain rfl : i = len := by omega
      have e : ctX q i seed i = ctL i seed := oF_ext fun k hk => if_pos (by omega)
      rw [e] at hW
      refine g_iload rfl rfl ?_
      refine g_iload_n rfl rfl ?_
      refine g_icmpge rfl rfl (fun c1 => ?_) (fun c => absurd c (by omega))
      exact g_return rfl rfl (e_ok hc rfl hW (SE.rf _ _))
def coOK (st : CS) (t : Nat) (node len seed : Int) : Prop := hs st t node ∧ (st.2.1 (st.2.2.1 t node.toNat) 0) = 1 ∧ (0 ≤ len ∧ len ≤ 2000) ∧ (0 ≤ seed ∧ seed ≤ 255)
noncomputable def coC (st : CS) (t : Nat) (node len seed : Int) : Int := pk (coOK st t node len seed) 0 1
def coF (st : CS) (t : Nat) (node len seed : Int) : CS := uR st (2 * st.2.2.1 t node.toNat + 1) (ctL len seed)
theorem c_contents (hd7 : 7 ≤ d) (hW : WC K h g st cb sb) (ht : t < 2) (ht0 : st.2.2.2.2.2 0 = (t : Int)) (node len seed : Int) : Cal d yTY_contents [aR (g 533), aI node, aI len, aI seed] h (RO (coC st t node len seed) none (PO K g (if coC st t node len seed = 0 then coF st t node len seed else st) t cb sb)) := by
  have hcn := hW.cnt ht
  show Go _ _ 0 [aR (g 533), aI node, aI len, aI seed, none, none] [] _ _
  by_cases hh : hs st t node
  · have hh1 := hh.1
    have hh2 := hh.2
    obtain ⟨i, rfl⟩ : ∃ i : Nat, node = i := ⟨node.toNat, by omega⟩
    have hiC : i < (st.2.2.2.1 t) := by omega
    have hpm := hW.pm ht (i := i) (by omega)
    refine g_aload_n rfl rfl ?_
    refine g_iload_n rfl rfl ?_
    refine g_V (z := yTY_known) (e := 1) (A := [aI ((i : Int))]) (rest := []) (v := aR (g (400 + st.2.2.1 t i))) (P := fun h2 => h2 = h) rfl rfl rfl rfl rfl rfl (by omega) (hW.ty ht0 ht) hW.tyb (c_known (by omega) hW ht ht0 hiC) ?_
    intro hh9 he9
    rw [he9]
    clear he9 hh9
    refine g_astore (L' := [aR (g 533), aI ((i : Int)), aI len, aI seed, aR (g (400 + st.2.2.1 t i)), none]) rfl rfl ?_
    refine g_aload rfl rfl ?_
    refine g_get (ci := 0) (kk := 2) rfl rfl (hW.node hpm) (hW.nodeb hpm) rfl ?_
    refine g_iconst (n := 1) rfl (by decide) ?_
    refine g_icmpeq rfl rfl (fun c1 => ?_) (fun c1 => ?_)
    · skip
      have k1 : (st.2.1 (st.2.2.1 t i) 0) = 1 := c1
      refine g_iload_n rfl rfl ?_
      refine g_iflt rfl rfl (fun c2 => ?_) (fun c2 => ?_)
      · skip
        have hc : coC st t (i : Int) len seed = 1 := pk_f (fun q => by obtain ⟨q1, q2, q3, q4⟩ := q; omega)
        exact g_throw rfl rfl (by omega) (Nat.le_of_ble_eq_true rfl) (e_t1 hc hW (SE.rf _ _))
      · skip
        refine g_iload_n rfl rfl ?_
        refine g_sipush (n := 2000) rfl (by decide) ?_
        refine g_icmpgt rfl rfl (fun c3 => ?_) (fun c3 => ?_)
        · skip
          have hc : coC st t (i : Int) len seed = 1 := pk_f (fun q => by obtain ⟨q1, q2, q3, q4⟩ := q; omega)
          exact g_throw rfl rfl (by omega) (Nat.le_of_ble_eq_true rfl) (e_t1 hc hW (SE.rf _ _))
        · skip
          refine g_iload_n rfl rfl ?_
          refine g_iflt rfl rfl (fun c4 => ?_) (fun c4 => ?_)
          · skip
            have hc : coC st t (i : Int) len seed = 1 := pk_f (fun q => by obtain ⟨q1, q2, q3, q4⟩ := q; omega)
            exact g_throw rfl rfl (by omega) (Nat.le_of_ble_eq_true rfl) (e_t1 hc hW (SE.rf _ _))
          · skip
            refine g_iload_n rfl rfl ?_
            refine g_sipush (n := 255) rfl (by decide) ?_
            refine g_icmple rfl rfl (fun c5 => ?_) (fun c5 => ?_)
            · skip
              refine g_aload rfl rfl ?_
              refine g_get (ci := 0) (kk := 1) rfl rfl (hW.node hpm) (hW.nodeb hpm) rfl ?_
              refine g_iload_n rfl rfl ?_
              refine g_Vn (z := yRw_resize) (e := 1) (A := [aI len]) (rest := [])  rfl rfl rfl rfl rfl rfl (by omega) (hW.row (by omega)) (hW.rowb (by omega)) (c_resize (by omega) hW (r := 2 * st.2.2.1 t i + 1) (by omega) _) ?_
              intro hh6 hW
              have hW : WC K hh6 g (uR st (2 * st.2.2.1 t i + 1) (ctX (fun k => ((st.1 (2 * st.2.2.1 t i + 1))).getD k 0) len seed 0)) cb sb := by
                rw [rsz_oF _ (by omega) (by omega)] at hW
                rw [show ctX (fun k => ((st.1 (2 * st.2.2.1 t i + 1))).getD k 0) len seed 0 = oF len.toNat (fun k => ((st.1 (2 * st.2.2.1 t i + 1))).getD k 0) from oF_ext fun k hk => if_neg (by omega)]
                exact hW
              have hc : coC st t (i : Int) len seed = 0 := pk_t ⟨hh, k1, ⟨by omega, by omega⟩, ⟨by omega, by omega⟩⟩
              obtain ⟨d, rfl⟩ : ∃ e, d = e + 1 := ⟨d - 1, by omega⟩
              refine g_iconst (n := 0) rfl (by decide) ?_
              refine g_istore (L' := [aR (g 533), aI ((i : Int)), aI len, aI seed, aR (g (400 + st.2.2.1 t i)), aI 0]) rfl rfl ?_
              exact ct_loop (d := d) hpm len seed (by omega) (by omega) (by omega) (by omega) _ _ hc rfl len.toNat 0 _ (by omega) (by omega) (by omega) hW
            · skip
              have hc : coC st t (i : Int) len seed = 1 := pk_f (fun q => by obtain ⟨q1, q2, q3, q4⟩ := q; omega)
              exact g_throw rfl rfl (by omega) (Nat.le_of_ble_eq_true rfl) (e_t1 hc hW (SE.rf _ _))
    · skip
      have hc : coC st t (i : Int) len seed = 1 := pk_f (fun q => by obtain ⟨q1, q2, q3, q4⟩ := q; exact c1 q2)
      exact g_throw rfl rfl (by omega) (Nat.le_of_ble_eq_true rfl) (e_t1 hc hW (SE.rf _ _))
  · have hc : coC st t node len seed = 1 := pk_f (fun q => hh q.1)
    refine g_aload_n rfl rfl ?_
    refine g_iload_n rfl rfl ?_
    exact g_Vt (z := yTY_known) (e := 1) (A := [aI node]) (rest := []) (P := fun h2 => h2 = hthr h) rfl rfl rfl rfl rfl rfl (by omega) (hW.ty ht0 ht) hW.tyb rfl (c_knownT (by omega) hW ht ht0 hh) (fun h2 hp => by subst hp; exact e_t1 hc hW (SE.rf _ _))
def seOK (st : CS) (t : Nat) (node m o u : Int) : Prop := hs st t node ∧ (0 ≤ m ∧ m ≤ 4095) ∧ (0 ≤ o ∧ o ≤ 2097151) ∧ 0 ≤ u
noncomputable def seC (st : CS) (t : Nat) (node m o u : Int) : Int := pk (seOK st t node m o u) 0 1
def seF (st : CS) (t : Nat) (node m o u : Int) : CS := uN (uN (uN st (st.2.2.1 t node.toNat) 3 m) (st.2.2.1 t node.toNat) 4 o) (st.2.2.1 t node.toNat) 5 u
theorem c_set (hd7 : 7 ≤ d) (hW : WC K h g st cb sb) (ht : t < 2) (ht0 : st.2.2.2.2.2 0 = (t : Int)) (node m o u : Int) : Cal d yTY_set [aR (g 533), aI node, aI m, aI o, aI u] h (RO (seC st t node m o u) none (PO K g (if seC st t node m o u = 0 then seF st t node m o u else st) t cb sb)) := by
  have hcn := hW.cnt ht
  show Go _ _ 0 [aR (g 533), aI node, aI m, aI o, aI u, none] [] _ _
  by_cases hh : hs st t node
  · have hh1 := hh.1
    have hh2 := hh.2
    obtain ⟨i, rfl⟩ : ∃ i : Nat, node = i := ⟨node.toNat, by omega⟩
    have hiC : i < (st.2.2.2.1 t) := by omega
    have hpm := hW.pm ht (i := i) (by omega)
    refine g_aload_n rfl rfl ?_
    refine g_iload_n rfl rfl ?_
    refine g_V (z := yTY_known) (e := 1) (A := [aI ((i : Int))]) (rest := []) (v := aR (g (400 + st.2.2.1 t i))) (P := fun h2 => h2 = h) rfl rfl rfl rfl rfl rfl (by omega) (hW.ty ht0 ht) hW.tyb (c_known (by omega) hW ht ht0 hiC) ?_
    intro hh9 he9
    rw [he9]
    clear he9 hh9
    refine g_astore (L' := [aR (g 533), aI ((i : Int)), aI m, aI o, aI u, aR (g (400 + st.2.2.1 t i))]) rfl rfl ?_
    refine g_iload_n rfl rfl ?_
    refine g_iflt rfl rfl (fun c1 => ?_) (fun c1 => ?_)
    · skip
      have hc : seC st t (i : Int) m o u = 1 := pk_f (fun q => by obtain ⟨q1, q2, q3, q4⟩ := q; omega)
      exact g_throw rfl rfl (by omega) (Nat.le_of_ble_eq_true rfl) (e_t1 hc hW (SE.rf _ _))
    · skip
      refine g_iload_n rfl rfl ?_
      refine g_sipush (n := 4095) rfl (by decide) ?_
      refine g_icmpgt rfl rfl (fun c2 => ?_) (fun c2 => ?_)
      · skip
        have hc : seC st t (i : Int) m o u = 1 := pk_f (fun q => by obtain ⟨q1, q2, q3, q4⟩ := q; omega)
        exact g_throw rfl rfl (by omega) (Nat.le_of_ble_eq_true rfl) (e_t1 hc hW (SE.rf _ _))
      · skip
        refine g_iload_n rfl rfl ?_
        refine g_iflt rfl rfl (fun c3 => ?_) (fun c3 => ?_)
        · skip
          have hc : seC st t (i : Int) m o u = 1 := pk_f (fun q => by obtain ⟨q1, q2, q3, q4⟩ := q; omega)
          exact g_throw rfl rfl (by omega) (Nat.le_of_ble_eq_true rfl) (e_t1 hc hW (SE.rf _ _))
        · skip
          refine g_iload_n rfl rfl ?_
          refine g_ldc (v := 2097151) rfl rfl ?_
          refine g_icmpgt rfl rfl (fun c4 => ?_) (fun c4 => ?_)
          · skip
            have hc : seC st t (i : Int) m o u = 1 := pk_f (fun q => by obtain ⟨q1, q2, q3, q4⟩ := q; omega)
            exact g_throw rfl rfl (by omega) (Nat.le_of_ble_eq_true rfl) (e_t1 hc hW (SE.rf _ _))
          · skip
            refine g_iload rfl rfl ?_
            refine g_ifge rfl rfl (fun c5 => ?_) (fun c5 => ?_)
            · skip
              have hc : seC st t (i : Int) m o u = 0 := pk_t ⟨hh, ⟨by omega, by omega⟩, ⟨by omega, by omega⟩, by omega⟩
              refine g_aload rfl rfl ?_
              refine g_iload_n rfl rfl ?_
              refine g_put (ci := 0) (kk := 5) (fs' := [aR (g (2 * st.2.2.1 t i)), aR (g (2 * st.2.2.1 t i + 1)), aI (st.2.1 (st.2.2.1 t i) 0), aI (st.2.1 (st.2.2.1 t i) 1), aI (st.2.1 (st.2.2.1 t i) 2), aI m, aI (st.2.1 (st.2.2.1 t i) 4), aI (st.2.1 (st.2.2.1 t i) 5)]) rfl rfl (hW.node hpm) (hW.nodeb hpm) (Nat.le_of_ble_eq_true rfl) rfl (by decide) rfl ?_
              generalize hg_hh6 : hput h (g (400 + st.2.2.1 t i)) (eO 0 [aR (g (2 * st.2.2.1 t i)), aR (g (2 * st.2.2.1 t i + 1)), aI (st.2.1 (st.2.2.1 t i) 0), aI (st.2.1 (st.2.2.1 t i) 1), aI (st.2.1 (st.2.2.1 t i) 2), aI m, aI (st.2.1 (st.2.2.1 t i) 4), aI (st.2.1 (st.2.2.1 t i) 5)]) = hh6
              have hW : WC K hh6 g (uN st (st.2.2.1 t i) 3 m) cb sb := by
                rw [← hg_hh6]
                exact hW.setN hpm (by simp [uN, va_up])
              refine g_aload rfl rfl ?_
              refine g_iload_n rfl rfl ?_
              refine g_put (ci := 0) (kk := 6) (fs' := [aR (g (2 * (uN st (st.2.2.1 t i) 3 m).2.2.1 t i)), aR (g (2 * (uN st (st.2.2.1 t i) 3 m).2.2.1 t i + 1)), aI ((uN st (st.2.2.1 t i) 3 m).2.1 ((uN st (st.2.2.1 t i) 3 m).2.2.1 t i) 0), aI ((uN st (st.2.2.1 t i) 3 m).2.1 ((uN st (st.2.2.1 t i) 3 m).2.2.1 t i) 1), aI ((uN st (st.2.2.1 t i) 3 m).2.1 ((uN st (st.2.2.1 t i) 3 m).2.2.1 t i) 2), aI ((uN st (st.2.2.1 t i) 3 m).2.1 ((uN st (st.2.2.1 t i) 3 m).2.2.1 t i) 3), aI o, aI ((uN st (st.2.2.1 t i) 3 m).2.1 ((uN st (st.2.2.1 t i) 3 m).2.2.1 t i) 5)]) rfl rfl (hW.node hpm) (hW.nodeb hpm) (Nat.le_of_ble_eq_true rfl) rfl (by decide) rfl ?_
              generalize hg_hh7 : hput hh6 (g (400 + st.2.2.1 t i)) (eO 0 [aR (g (2 * (uN st (st.2.2.1 t i) 3 m).2.2.1 t i)), aR (g (2 * (uN st (st.2.2.1 t i) 3 m).2.2.1 t i + 1)), aI ((uN st (st.2.2.1 t i) 3 m).2.1 ((uN st (st.2.2.1 t i) 3 m).2.2.1 t i) 0), aI ((uN st (st.2.2.1 t i) 3 m).2.1 ((uN st (st.2.2.1 t i) 3 m).2.2.1 t i) 1), aI ((uN st (st.2.2.1 t i) 3 m).2.1 ((uN st (st.2.2.1 t i) 3 m).2.2.1 t i) 2), aI ((uN st (st.2.2.1 t i) 3 m).2.1 ((uN st (st.2.2.1 t i) 3 m).2.2.1 t i) 3), aI o, aI ((uN st (st.2.2.1 t i) 3 m).2.1 ((uN st (st.2.2.1 t i) 3 m).2.2.1 t i) 5)]) = hh7
              have hW : WC K hh7 g (uN (uN st (st.2.2.1 t i) 3 m) (st.2.2.1 t i) 4 o) cb sb := by
                rw [← hg_hh7]
                exact hW.setN hpm (by simp [uN, va_up])
              refine g_aload rfl rfl ?_
              refine g_iload rfl rfl ?_
              refine g_put (ci := 0) (kk := 7) (fs' := [aR (g (2 * (uN (uN st (st.2.2.1 t i) 3 m) (st.2.2.1 t i) 4 o).2.2.1 t i)), aR (g (2 * (uN (uN st (st.2.2.1 t i) 3 m) (st.2.2.1 t i) 4 o).2.2.1 t i + 1)), aI ((uN (uN st (st.2.2.1 t i) 3 m) (st.2.2.1 t i) 4 o).2.1 ((uN (uN st (st.2.2.1 t i) 3 m) (st.2.2.1 t i) 4 o).2.2.1 t i) 0), aI ((uN (uN st (st.2.2.1 t i) 3 m) (st.2.2.1 t i) 4 o).2.1 ((uN (uN st (st.2.2.1 t i) 3 m) (st.2.2.1 t i) 4 o).2.2.1 t i) 1), aI ((uN (uN st (st.2.2.1 t i) 3 m) (st.2.2.1 t i) 4 o).2.1 ((uN (uN st (st.2.2.1 t i) 3 m) (st.2.2.1 t i) 4 o).2.2.1 t i) 2), aI ((uN (uN st (st.2.2.1 t i) 3 m) (st.2.2.1 t i) 4 o).2.1 ((uN (uN st (st.2.2.1 t i) 3 m) (st.2.2.1 t i) 4 o).2.2.1 t i) 3), aI ((uN (uN st (st.2.2.1 t i) 3 m) (st.2.2.1 t i) 4 o).2.1 ((uN (uN st (st.2.2.1 t i) 3 m) (st.2.2.1 t i) 4 o).2.2.1 t i) 4), aI u]) rfl rfl (hW.node hpm) (hW.nodeb hpm) (Nat.le_of_ble_eq_true rfl) rfl (by decide) rfl ?_
              generalize hg_hh8 : hput hh7 (g (400 + st.2.2.1 t i)) (eO 0 [aR (g (2 * (uN (uN st (st.2.2.1 t i) 3 m) (st.2.2.1 t i) 4 o).2.2.1 t i)), aR (g (2 * (uN (uN st (st.2.2.1 t i) 3 m) (st.2.2.1 t i) 4 o).2.2.1 t i + 1)), aI ((uN (uN st (st.2.2.1 t i) 3 m) (st.2.2.1 t i) 4 o).2.1 ((uN (uN st (st.2.2.1 t i) 3 m) (st.2.2.1 t i) 4 o).2.2.1 t i) 0), aI ((uN (uN st (st.2.2.1 t i) 3 m) (st.2.2.1 t i) 4 o).2.1 ((uN (uN st (st.2.2.1 t i) 3 m) (st.2.2.1 t i) 4 o).2.2.1 t i) 1), aI ((uN (uN st (st.2.2.1 t i) 3 m) (st.2.2.1 t i) 4 o).2.1 ((uN (uN st (st.2.2.1 t i) 3 m) (st.2.2.1 t i) 4 o).2.2.1 t i) 2), aI ((uN (uN st (st.2.2.1 t i) 3 m) (st.2.2.1 t i) 4 o).2.1 ((uN (uN st (st.2.2.1 t i) 3 m) (st.2.2.1 t i) 4 o).2.2.1 t i) 3), aI ((uN (uN st (st.2.2.1 t i) 3 m) (st.2.2.1 t i) 4 o).2.1 ((uN (uN st (st.2.2.1 t i) 3 m) (st.2.2.1 t i) 4 o).2.2.1 t i) 4), aI u]) = hh8
              have hW : WC K hh8 g (uN (uN (uN st (st.2.2.1 t i) 3 m) (st.2.2.1 t i) 4 o) (st.2.2.1 t i) 5 u) cb sb := by
                rw [← hg_hh8]
                exact hW.setN hpm (by simp [uN, va_up])
              exact g_return rfl rfl (e_ok hc rfl hW (SE.rf _ _))
            · skip
              have hc : seC st t (i : Int) m o u = 1 := pk_f (fun q => by obtain ⟨q1, q2, q3, q4⟩ := q; omega)
              exact g_throw rfl rfl (by omega) (Nat.le_of_ble_eq_true rfl) (e_t1 hc hW (SE.rf _ _))
  · have hc : seC st t node m o u = 1 := pk_f (fun q => hh q.1)
    refine g_aload_n rfl rfl ?_
    refine g_iload_n rfl rfl ?_
    exact g_Vt (z := yTY_known) (e := 1) (A := [aI node]) (rest := []) (P := fun h2 => h2 = hthr h) rfl rfl rfl rfl rfl rfl (by omega) (hW.ty ht0 ht) hW.tyb rfl (c_knownT (by omega) hW ht ht0 hh) (fun h2 hp => by subst hp; exact e_t1 hc hW (SE.rf _ _))
noncomputable def rmC (st : CS) (t : Nat) (node : Int) : Int := pk (hs st t node ∧ node ≠ 0) 0 1
theorem c_remove (hd7 : 7 ≤ d) (hT : TI st t) (hW : WC K h g st cb sb) (ht : t < 2) (ht0 : st.2.2.2.2.2 0 = (t : Int)) (node : Int) : Cal d yTY_remove [aR (g 533), aI node] h (RO (rmC st t node) (some (aI (((st.2.2.2.1 t) : Int) - kp st t node.toNat ((st.2.2.2.1 t))))) (fun h2 => ∃ s, WC K h2 g s (cb + 1) (sb + 6) ∧ (rmC st t node = 0 → DR st s t node.toNat ∧ s.1 121 = st.1 121 ∧ s.2.2.2.2.2 = st.2.2.2.2.2) ∧ (rmC st t node ≠ 0 → SE st s t))) := by
  have hcn := hW.cnt ht
  show Go _ _ 0 [aR (g 533), aI node] [] _ _
  refine g_iload_n rfl rfl ?_
  refine g_ifeq rfl rfl (fun c1 => ?_) (fun c1 => ?_)
  · skip
    have hc : rmC st t node = 1 := pk_f (fun q => q.2 c1)
    exact g_throw rfl rfl (by omega) (Nat.le_of_ble_eq_true rfl) ⟨Or.inr (Or.inl ⟨hc, _, rfl⟩), st, hW.thr, fun q => by omega, fun _ => SE.rf _ _⟩
  · skip
    have hn0 := c1
    refine g_aload_n rfl rfl ?_
    refine g_get (ci := 7) (kk := 4) rfl rfl (hW.ty ht0 ht) hW.tyb rfl ?_
    refine g_iload_n rfl rfl ?_
    refine g_V (z := yTr_has) (e := 1) (A := [aI node]) (rest := []) (v := aI (pz (hs st t node))) (P := fun h2 => h2 = h) rfl rfl rfl rfl rfl rfl (by omega) (hW.tree ht) (hW.treeb ht) (c_has hW ht _) ?_
    intro hh9 he9
    rw [he9]
    clear he9 hh9
    refine g_ifne rfl rfl (fun c2 => ?_) (fun c2 => ?_)
    · skip
      have hh := pz_ne c2
      have hh1 := hh.1
      have hh2 := hh.2
      have hc : rmC st t node = 0 := pk_t ⟨hh, hn0⟩
      obtain ⟨i, rfl⟩ : ∃ i : Nat, node = i := ⟨node.toNat, by omega⟩
      refine g_aload_n rfl rfl ?_
      refine g_get (ci := 7) (kk := 4) rfl rfl (hW.ty ht0 ht) hW.tyb rfl ?_
      refine g_iload_n rfl rfl ?_
      refine g_V (z := yTr_drop) (e := 1) (A := [aI ((i : Int))]) (rest := []) (v := aI (((st.2.2.2.1 t) : Int) - (kp st t i ((st.2.2.2.1 t)) : Int)))  rfl rfl rfl rfl rfl rfl (by omega) (hW.tree ht) (hW.treeb ht) (c_drop (by omega) hT hW ht (num := i) (by omega) (by omega)) ?_
      intro hh3 hq
      obtain ⟨s, hW, q1, q2, q3⟩ := hq
      exact g_ireturn rfl rfl ⟨Or.inl ⟨hc, rfl⟩, s, hW.le (by omega) (by omega), fun _ => ⟨q1, by rw [q2], q3⟩, fun q => absurd hc q⟩
    · skip
      have hc : rmC st t node = 1 := pk_f (fun q => pz_eq c2 q.1)
      exact g_throw rfl rfl (by omega) (Nat.le_of_ble_eq_true rfl) ⟨Or.inr (Or.inl ⟨hc, _, rfl⟩), st, hW.thr, fun q => by omega, fun _ => SE.rf _ _⟩
noncomputable def alC (st : CS) (i b : Int) : Int := pk ((0 ≤ i ∧ i < (st.1 121).length) ∧ 0 ≤ b ∧ b ≤ 255) 0 1
theorem rat_m1 {l : List Int} {i : Int} : rat l i = -1 ↔ ¬ (0 ≤ i ∧ i < l.length) := by
  constructor
  · intro q z
    have := rat_nn z.1 z.2
    omega
  · exact rat_out
theorem c_alter (hd7 : 7 ≤ d) (hW : WC K h g st cb sb) (ht : t < 2) (ht0 : st.2.2.2.2.2 0 = (t : Int)) (i b : Int) : Cal d yTY_alter [aR (g 533), aI i, aI b] h (RO (alC st i b) (some (aI (rat (st.1 121) i))) (PO K g (if alC st i b = 0 then uR st 121 (rput (st.1 121) i b) else st) t cb sb)) := by
  show Go _ _ 0 [aR (g 533), aI i, aI b, none] [] _ _
  refine g_aload_n rfl rfl ?_
  refine g_get (ci := 7) (kk := 0) rfl rfl (hW.ty ht0 ht) hW.tyb rfl ?_
  refine g_get (ci := 3) (kk := 0) rfl rfl hW.tape hW.tapeb rfl ?_
  refine g_iload_n rfl rfl ?_
  refine g_V (z := yRw_at) (e := 1) (A := [aI i]) (rest := []) (v := aI (rat (st.1 121) i)) (P := fun h2 => h2 = h) rfl rfl rfl rfl rfl rfl (by omega) (hW.row (by omega)) (hW.rowb (by omega)) (c_at hW (r := 121) (by omega) _) ?_
  intro hh9 he9
  rw [he9]
  clear he9 hh9
  refine g_istore_n (L' := [aR (g 533), aI i, aI b, aI (rat (st.1 121) i)]) rfl rfl ?_
  refine g_iload_n rfl rfl ?_
  refine g_iconst (n := -1) rfl (by decide) ?_
  refine g_icmpeq rfl rfl (fun c1 => ?_) (fun c1 => ?_)
  · skip
    have hc : alC st i b = 1 := pk_f (fun q => by obtain ⟨q1, q2, q3⟩ := q; exact rat_m1.1 c1 q1)
    exact g_throw rfl rfl (by omega) (Nat.le_of_ble_eq_true rfl) (e_t1 hc hW (SE.rf _ _))
  · skip
    have z1 : 0 ≤ i ∧ i < (st.1 121).length := Classical.byContradiction fun q => c1 (rat_m1.2 q)
    refine g_iload_n rfl rfl ?_
    refine g_iflt rfl rfl (fun c2 => ?_) (fun c2 => ?_)
    · skip
      have hc : alC st i b = 1 := pk_f (fun q => by obtain ⟨q1, q2, q3⟩ := q; omega)
      exact g_throw rfl rfl (by omega) (Nat.le_of_ble_eq_true rfl) (e_t1 hc hW (SE.rf _ _))
    · skip
      refine g_iload_n rfl rfl ?_
      refine g_sipush (n := 255) rfl (by decide) ?_
      refine g_icmple rfl rfl (fun c3 => ?_) (fun c3 => ?_)
      · skip
        have hc : alC st i b = 0 := pk_t ⟨z1, by omega, by omega⟩
        refine g_aload_n rfl rfl ?_
        refine g_get (ci := 7) (kk := 0) rfl rfl (hW.ty ht0 ht) hW.tyb rfl ?_
        refine g_get (ci := 3) (kk := 0) rfl rfl hW.tape hW.tapeb rfl ?_
        refine g_iload_n rfl rfl ?_
        refine g_iload_n rfl rfl ?_
        refine g_Vn (z := yRw_put) (e := 1) (A := [aI b, aI i]) (rest := [])  rfl rfl rfl rfl rfl rfl (by omega) (hW.row (by omega)) (hW.rowb (by omega)) (c_put hW (r := 121) (by omega) _ _) ?_
        intro hh4 hW
        refine g_iload_n rfl rfl ?_
        exact g_ireturn rfl rfl (e_ok hc rfl hW (SE.rf _ _))
      · skip
        have hc : alC st i b = 1 := pk_f (fun q => by obtain ⟨q1, q2, q3⟩ := q; omega)
        exact g_throw rfl rfl (by omega) (Nat.le_of_ble_eq_true rfl) (e_t1 hc hW (SE.rf _ _))
noncomputable def ckC (st : CS) (b : Int) : Int := pk (0 ≤ b ∧ b < ((st.1 121).length : Int) / 512) 0 1
theorem c_check (hd7 : 7 ≤ d) (hW : WC K h g st cb sb) (ht : t < 2) (ht0 : st.2.2.2.2.2 0 = (t : Int)) (b : Int) : Cal d yTY_check [aR (g 533), aI b] h (RO (ckC st b) (some (aI (sums (st.1 121) b 512))) (PO K g (if ckC st b = 0 then uR st 121 (pchk (st.1 121) b) else st) t cb sb)) := by
  show Go _ _ 0 [aR (g 533), aI b] [] _ _
  refine g_iload_n rfl rfl ?_
  refine g_iflt rfl rfl (fun c1 => ?_) (fun c1 => ?_)
  · skip
    have hc : ckC st b = 1 := pk_f (fun q => by omega)
    exact g_throw rfl rfl (by omega) (Nat.le_of_ble_eq_true rfl) (e_t1 hc hW (SE.rf _ _))
  · skip
    refine g_iload_n rfl rfl ?_
    refine g_aload_n rfl rfl ?_
    refine g_get (ci := 7) (kk := 0) rfl rfl (hW.ty ht0 ht) hW.tyb rfl ?_
    refine g_V (z := yTp_wholeBlocks) (e := 1) (A := []) (rest := [aI b]) (v := aI (((st.1 121).length : Int) / 512)) (P := fun h2 => h2 = h) rfl rfl rfl rfl rfl rfl (by omega) hW.tape hW.tapeb (c_wholeBlocks hW) ?_
    intro hh9 he9
    rw [he9]
    clear he9 hh9
    refine g_icmplt rfl rfl (fun c2 => ?_) (fun c2 => ?_)
    · skip
      have hc : ckC st b = 0 := pk_t ⟨by omega, by omega⟩
      refine g_aload_n rfl rfl ?_
      refine g_get (ci := 7) (kk := 0) rfl rfl (hW.ty ht0 ht) hW.tyb rfl ?_
      refine g_iload_n rfl rfl ?_
      refine g_V (z := yTp_putCheck) (e := 1) (A := [aI b]) (rest := []) (v := aI (sums (st.1 121) b 512))  rfl rfl rfl rfl rfl rfl (by omega) hW.tape hW.tapeb (c_putCheck (by omega) hW b (by omega) (by omega)) ?_
      intro hh3 hW
      exact g_ireturn rfl rfl (e_ok hc rfl hW (SE.rf _ _))
    · skip
      have hc : ckC st b = 1 := pk_f (fun q => by omega)
      exact g_throw rfl rfl (by omega) (Nat.le_of_ble_eq_true rfl) (e_t1 hc hW (SE.rf _ _))
noncomputable def szC (n : Int) : Int := pk (0 ≤ n ∧ n ≤ 10240) 0 1
theorem c_size (hd7 : 7 ≤ d) (hW : WC K h g st cb sb) (ht : t < 2) (ht0 : st.2.2.2.2.2 0 = (t : Int)) (n : Int) : Cal d yTY_size [aR (g 533), aI n] h (RO (szC n) none (PO K g (if szC n = 0 then uR st 121 (rsz (st.1 121) n) else st) t cb sb)) := by
  show Go _ _ 0 [aR (g 533), aI n] [] _ _
  refine g_iload_n rfl rfl ?_
  refine g_iflt rfl rfl (fun c1 => ?_) (fun c1 => ?_)
  · skip
    have hc : szC n = 1 := pk_f (fun q => by omega)
    exact g_throw rfl rfl (by omega) (Nat.le_of_ble_eq_true rfl) (e_t1 hc hW (SE.rf _ _))
  · skip
    refine g_iload_n rfl rfl ?_
    refine g_sipush (n := 10240) rfl (by decide) ?_
    refine g_icmple rfl rfl (fun c2 => ?_) (fun c2 => ?_)
    · skip
      have hc : szC n = 0 := pk_t ⟨by omega, by omega⟩
      refine g_aload_n rfl rfl ?_
      refine g_get (ci := 7) (kk := 0) rfl rfl (hW.ty ht0 ht) hW.tyb rfl ?_
      refine g_get (ci := 3) (kk := 0) rfl rfl hW.tape hW.tapeb rfl ?_
      refine g_iload_n rfl rfl ?_
      refine g_Vn (z := yRw_resize) (e := 1) (A := [aI n]) (rest := [])  rfl rfl rfl rfl rfl rfl (by omega) (hW.row (by omega)) (hW.rowb (by omega)) (c_resize (by omega) hW (r := 121) (by omega) _) ?_
      intro hh3 hW
      exact g_return rfl rfl (e_ok hc rfl hW (SE.rf _ _))
    · skip
      have hc : szC n = 1 := pk_f (fun q => by omega)
      exact g_throw rfl rfl (by omega) (Nat.le_of_ble_eq_true rfl) (e_t1 hc hW (SE.rf _ _))
theorem c_hand (hd7 : 7 ≤ d) (hW : WC K h g st cb sb) (ht : t < 2) (ht0 : st.2.2.2.2.2 0 = (t : Int)) (i : Int) : Cal d yTY_hand [aR (g 533), aI i] h (RV (some (aI (rat (st.1 121) i))) (fun h2 => h2 = h)) := by
  show Go _ _ 0 [aR (g 533), aI i] [] _ _
  refine g_aload_n rfl rfl ?_
  refine g_get (ci := 7) (kk := 0) rfl rfl (hW.ty ht0 ht) hW.tyb rfl ?_
  refine g_get (ci := 3) (kk := 0) rfl rfl hW.tape hW.tapeb rfl ?_
  refine g_iload_n rfl rfl ?_
  refine g_V (z := yRw_at) (e := 1) (A := [aI i]) (rest := []) (v := aI (rat (st.1 121) i)) (P := fun h2 => h2 = h) rfl rfl rfl rfl rfl rfl (by omega) (hW.row (by omega)) (hW.rowb (by omega)) (c_at hW (r := 121) (by omega) _) ?_
  intro hh9 he9
  rw [he9]
  clear he9 hh9
  exact r_i rfl rfl rfl rfl
theorem c_place (hW : WC K h g st cb sb) (ht : t < 2) (ht0 : st.2.2.2.2.2 0 = (t : Int)) : Cal d yTY_place [aR (g 533)] h (RV (some (aI (st.2.2.2.2.2 1))) (fun h2 => h2 = h)) := by
  show Go _ _ 0 [aR (g 533)] [] _ _
  refine g_aload_n rfl rfl ?_
  refine g_get (ci := 7) (kk := 6) rfl rfl (hW.ty ht0 ht) hW.tyb rfl ?_
  exact r_i rfl rfl rfl rfl
noncomputable def ndC (st : CS) (t : Nat) (node what : Int) : Int := pk (hs st t node ∧ 0 ≤ what ∧ what ≤ 7) 0 1
def ndV (st : CS) (t i : Nat) (what : Int) : Int := if what = 0 then (st.2.1 (st.2.2.1 t i) 0) else if what = 1 then (st.2.1 (st.2.2.1 t i) 1) else if what = 2 then ((st.1 (2 * st.2.2.1 t i))).length else if what = 3 then (st.2.1 (st.2.2.1 t i) 3) else if what = 4 then (st.2.1 (st.2.2.1 t i) 4) else if what = 5 then (st.2.1 (st.2.2.1 t i) 5) else if what = 6 then ((st.1 (2 * st.2.2.1 t i + 1))).length else (st.2.1 (st.2.2.1 t i) 2)
theorem c_node (hd7 : 7 ≤ d) (hW : WC K h g st cb sb) (ht : t < 2) (ht0 : st.2.2.2.2.2 0 = (t : Int)) (node what : Int) : Cal d yTY_node [aR (g 533), aI node, aI what] h (RO (ndC st t node what) (some (aI (ndV st t node.toNat what))) (PO K g (if ndC st t node what = 0 then st else st) t cb sb)) := by
  have hcn := hW.cnt ht
  show Go _ _ 0 [aR (g 533), aI node, aI what, none] [] _ _
  by_cases hh : hs st t node
  · have hh1 := hh.1
    have hh2 := hh.2
    obtain ⟨i, rfl⟩ : ∃ i : Nat, node = i := ⟨node.toNat, by omega⟩
    have hiC : i < (st.2.2.2.1 t) := by omega
    have hpm := hW.pm ht (i := i) (by omega)
    refine g_aload_n rfl rfl ?_
    refine g_iload_n rfl rfl ?_
    refine g_V (z := yTY_known) (e := 1) (A := [aI ((i : Int))]) (rest := []) (v := aR (g (400 + st.2.2.1 t i))) (P := fun h2 => h2 = h) rfl rfl rfl rfl rfl rfl (by omega) (hW.ty ht0 ht) hW.tyb (c_known (by omega) hW ht ht0 hiC) ?_
    intro hh9 he9
    rw [he9]
    clear he9 hh9
    refine g_astore_n (L' := [aR (g 533), aI ((i : Int)), aI what, aR (g (400 + st.2.2.1 t i))]) rfl rfl ?_
    refine g_iload_n rfl rfl ?_
    by_cases hk0 : what = 0
    · skip
      refine g_tabIn (off := 45) (t := 52) rfl (by omega) (by rw [hk0]; rfl) rfl ?_
      have hc : ndC st t (i : Int) what = 0 := pk_t ⟨hh, by omega, by omega⟩
      refine g_aload_n rfl rfl ?_
      refine g_get (ci := 0) (kk := 2) rfl rfl (hW.node hpm) (hW.nodeb hpm) rfl ?_
      exact g_ireturn rfl rfl (e_ok hc (by unfold ndV; rw [if_pos hk0]; rfl) hW (SE.rf _ _))
    by_cases hk1 : what = 1
    · skip
      refine g_tabIn (off := 50) (t := 57) rfl (by omega) (by rw [hk1]; rfl) rfl ?_
      have hc : ndC st t (i : Int) what = 0 := pk_t ⟨hh, by omega, by omega⟩
      refine g_aload_n rfl rfl ?_
      refine g_get (ci := 0) (kk := 3) rfl rfl (hW.node hpm) (hW.nodeb hpm) rfl ?_
      exact g_ireturn rfl rfl (e_ok hc (by unfold ndV; rw [if_neg (show ¬ what = 0 by omega), if_pos hk1]; rfl) hW (SE.rf _ _))
    by_cases hk2 : what = 2
    · skip
      refine g_tabIn (off := 55) (t := 62) rfl (by omega) (by rw [hk2]; rfl) rfl ?_
      have hc : ndC st t (i : Int) what = 0 := pk_t ⟨hh, by omega, by omega⟩
      refine g_aload_n rfl rfl ?_
      refine g_get (ci := 0) (kk := 0) rfl rfl (hW.node hpm) (hW.nodeb hpm) rfl ?_
      refine g_get (ci := 2) (kk := 1) rfl rfl (hW.row (by omega)) (hW.rowb (by omega)) rfl ?_
      exact g_ireturn rfl rfl (e_ok hc (by unfold ndV; rw [if_neg (show ¬ what = 0 by omega), if_neg (show ¬ what = 1 by omega), if_pos hk2]; rfl) hW (SE.rf _ _))
    by_cases hk3 : what = 3
    · skip
      refine g_tabIn (off := 63) (t := 70) rfl (by omega) (by rw [hk3]; rfl) rfl ?_
      have hc : ndC st t (i : Int) what = 0 := pk_t ⟨hh, by omega, by omega⟩
      refine g_aload_n rfl rfl ?_
      refine g_get (ci := 0) (kk := 5) rfl rfl (hW.node hpm) (hW.nodeb hpm) rfl ?_
      exact g_ireturn rfl rfl (e_ok hc (by unfold ndV; rw [if_neg (show ¬ what = 0 by omega), if_neg (show ¬ what = 1 by omega), if_neg (show ¬ what = 2 by omega), if_pos hk3]; rfl) hW (SE.rf _ _))
    by_cases hk4 : what = 4
    · skip
      refine g_tabIn (off := 68) (t := 75) rfl (by omega) (by rw [hk4]; rfl) rfl ?_
      have hc : ndC st t (i : Int) what = 0 := pk_t ⟨hh, by omega, by omega⟩
      refine g_aload_n rfl rfl ?_
      refine g_get (ci := 0) (kk := 6) rfl rfl (hW.node hpm) (hW.nodeb hpm) rfl ?_
      exact g_ireturn rfl rfl (e_ok hc (by unfold ndV; rw [if_neg (show ¬ what = 0 by omega), if_neg (show ¬ what = 1 by omega), if_neg (show ¬ what = 2 by omega), if_neg (show ¬ what = 3 by omega), if_pos hk4]; rfl) hW (SE.rf _ _))
    by_cases hk5 : what = 5
    · skip
      refine g_tabIn (off := 73) (t := 80) rfl (by omega) (by rw [hk5]; rfl) rfl ?_
      have hc : ndC st t (i : Int) what = 0 := pk_t ⟨hh, by omega, by omega⟩
      refine g_aload_n rfl rfl ?_
      refine g_get (ci := 0) (kk := 7) rfl rfl (hW.node hpm) (hW.nodeb hpm) rfl ?_
      exact g_ireturn rfl rfl (e_ok hc (by unfold ndV; rw [if_neg (show ¬ what = 0 by omega), if_neg (show ¬ what = 1 by omega), if_neg (show ¬ what = 2 by omega), if_neg (show ¬ what = 3 by omega), if_neg (show ¬ what = 4 by omega), if_pos hk5]; rfl) hW (SE.rf _ _))
    by_cases hk6 : what = 6
    · skip
      refine g_tabIn (off := 78) (t := 85) rfl (by omega) (by rw [hk6]; rfl) rfl ?_
      have hc : ndC st t (i : Int) what = 0 := pk_t ⟨hh, by omega, by omega⟩
      refine g_aload_n rfl rfl ?_
      refine g_get (ci := 0) (kk := 1) rfl rfl (hW.node hpm) (hW.nodeb hpm) rfl ?_
      refine g_get (ci := 2) (kk := 1) rfl rfl (hW.row (by omega)) (hW.rowb (by omega)) rfl ?_
      exact g_ireturn rfl rfl (e_ok hc (by unfold ndV; rw [if_neg (show ¬ what = 0 by omega), if_neg (show ¬ what = 1 by omega), if_neg (show ¬ what = 2 by omega), if_neg (show ¬ what = 3 by omega), if_neg (show ¬ what = 4 by omega), if_neg (show ¬ what = 5 by omega), if_pos hk6]; rfl) hW (SE.rf _ _))
    by_cases hk7 : what = 7
    · skip
      refine g_tabIn (off := 86) (t := 93) rfl (by omega) (by rw [hk7]; rfl) rfl ?_
      have hc : ndC st t (i : Int) what = 0 := pk_t ⟨hh, by omega, by omega⟩
      refine g_aload_n rfl rfl ?_
      refine g_get (ci := 0) (kk := 4) rfl rfl (hW.node hpm) (hW.nodeb hpm) rfl ?_
      exact g_ireturn rfl rfl (e_ok hc (by unfold ndV; rw [if_neg (show ¬ what = 0 by omega), if_neg (show ¬ what = 1 by omega), if_neg (show ¬ what = 2 by omega), if_neg (show ¬ what = 3 by omega), if_neg (show ¬ what = 4 by omega), if_neg (show ¬ what = 5 by omega), if_neg (show ¬ what = 6 by omega)]; rfl) hW (SE.rf _ _))
    refine g_tabOut (t := 98) rfl (by omega) rfl ?_
    have hc : ndC st t (i : Int) what = 1 := pk_f (fun q => by omega)
    exact g_throw rfl rfl (by omega) (Nat.le_of_ble_eq_true rfl) (e_t1 hc hW (SE.rf _ _))
  · have hc : ndC st t node what = 1 := pk_f (fun q => hh q.1)
    refine g_aload_n rfl rfl ?_
    refine g_iload_n rfl rfl ?_
    exact g_Vt (z := yTY_known) (e := 1) (A := [aI node]) (rest := []) (P := fun h2 => h2 = hthr h) rfl rfl rfl rfl rfl rfl (by omega) (hW.ty ht0 ht) hW.tyb rfl (c_knownT (by omega) hW ht ht0 hh) (fun h2 hp => by subst hp; exact e_t1 hc hW (SE.rf _ _))
noncomputable def paC (st : CS) (t : Nat) (node what : Int) : Int := pk (hs st t node ∧ (what = 0 ∨ what = 1)) 0 1
def paV (st : CS) (t i : Nat) (what j : Int) : Int := if what = 0 then rat ((st.1 (2 * st.2.2.1 t i))) j else rat ((st.1 (2 * st.2.2.1 t i + 1))) j
theorem c_part (hd7 : 7 ≤ d) (hW : WC K h g st cb sb) (ht : t < 2) (ht0 : st.2.2.2.2.2 0 = (t : Int)) (node what j : Int) : Cal d yTY_part [aR (g 533), aI node, aI what, aI j] h (RO (paC st t node what) (some (aI (paV st t node.toNat what j))) (PO K g (if paC st t node what = 0 then st else st) t cb sb)) := by
  have hcn := hW.cnt ht
  show Go _ _ 0 [aR (g 533), aI node, aI what, aI j, none] [] _ _
  by_cases hh : hs st t node
  · have hh1 := hh.1
    have hh2 := hh.2
    obtain ⟨i, rfl⟩ : ∃ i : Nat, node = i := ⟨node.toNat, by omega⟩
    have hiC : i < (st.2.2.2.1 t) := by omega
    have hpm := hW.pm ht (i := i) (by omega)
    refine g_aload_n rfl rfl ?_
    refine g_iload_n rfl rfl ?_
    refine g_V (z := yTY_known) (e := 1) (A := [aI ((i : Int))]) (rest := []) (v := aR (g (400 + st.2.2.1 t i))) (P := fun h2 => h2 = h) rfl rfl rfl rfl rfl rfl (by omega) (hW.ty ht0 ht) hW.tyb (c_known (by omega) hW ht ht0 hiC) ?_
    intro hh9 he9
    rw [he9]
    clear he9 hh9
    refine g_astore (L' := [aR (g 533), aI ((i : Int)), aI what, aI j, aR (g (400 + st.2.2.1 t i))]) rfl rfl ?_
    refine g_iload_n rfl rfl ?_
    refine g_ifeq rfl rfl (fun c1 => ?_) (fun c1 => ?_)
    · skip
      have hw : what = 0 ∨ what = 1 := Or.inl c1
      refine g_iload_n rfl rfl ?_
      refine g_ifne rfl rfl (fun c2 => ?_) (fun c2 => ?_)
      · skip
        have hc : paC st t (i : Int) what = 0 := pk_t ⟨hh, hw⟩
        have e9 : paV st t (i : Int).toNat what j = rat ((st.1 (2 * st.2.2.1 t i + 1))) j := if_neg c2
        refine g_aload rfl rfl ?_
        refine g_get (ci := 0) (kk := 1) rfl rfl (hW.node hpm) (hW.nodeb hpm) rfl ?_
        refine g_iload_n rfl rfl ?_
        refine g_V (z := yRw_at) (e := 1) (A := [aI j]) (rest := []) (v := aI (rat ((st.1 (2 * st.2.2.1 t i + 1))) j)) (P := fun h2 => h2 = h) rfl rfl rfl rfl rfl rfl (by omega) (hW.row (by omega)) (hW.rowb (by omega)) (c_at hW (r := 2 * st.2.2.1 t i + 1) (by omega) _) ?_
        intro hh9 he9
        rw [he9]
        clear he9 hh9
        exact g_ireturn rfl rfl (e_ok hc (by rw [e9]) hW (SE.rf _ _))
      · skip
        have hc : paC st t (i : Int) what = 0 := pk_t ⟨hh, hw⟩
        have e9 : paV st t (i : Int).toNat what j = rat ((st.1 (2 * st.2.2.1 t i))) j := if_pos c2
        refine g_aload rfl rfl ?_
        refine g_get (ci := 0) (kk := 0) rfl rfl (hW.node hpm) (hW.nodeb hpm) rfl ?_
        refine g_iload_n rfl rfl ?_
        refine g_V (z := yRw_at) (e := 1) (A := [aI j]) (rest := []) (v := aI (rat ((st.1 (2 * st.2.2.1 t i))) j)) (P := fun h2 => h2 = h) rfl rfl rfl rfl rfl rfl (by omega) (hW.row (by omega)) (hW.rowb (by omega)) (c_at hW (r := 2 * st.2.2.1 t i) (by omega) _) ?_
        intro hh9 he9
        rw [he9]
        clear he9 hh9
        refine g_goto rfl rfl ?_
        exact g_ireturn rfl rfl (e_ok hc (by rw [e9]) hW (SE.rf _ _))
    · skip
      refine g_iload_n rfl rfl ?_
      refine g_iconst (n := 1) rfl (by decide) ?_
      refine g_icmpeq rfl rfl (fun c3 => ?_) (fun c3 => ?_)
      · skip
        have hw : what = 0 ∨ what = 1 := Or.inr c3
        refine g_iload_n rfl rfl ?_
        refine g_ifne rfl rfl (fun c4 => ?_) (fun c4 => ?_)
        · skip
          have hc : paC st t (i : Int) what = 0 := pk_t ⟨hh, hw⟩
          have e9 : paV st t (i : Int).toNat what j = rat ((st.1 (2 * st.2.2.1 t i + 1))) j := if_neg c4
          refine g_aload rfl rfl ?_
          refine g_get (ci := 0) (kk := 1) rfl rfl (hW.node hpm) (hW.nodeb hpm) rfl ?_
          refine g_iload_n rfl rfl ?_
          refine g_V (z := yRw_at) (e := 1) (A := [aI j]) (rest := []) (v := aI (rat ((st.1 (2 * st.2.2.1 t i + 1))) j)) (P := fun h2 => h2 = h) rfl rfl rfl rfl rfl rfl (by omega) (hW.row (by omega)) (hW.rowb (by omega)) (c_at hW (r := 2 * st.2.2.1 t i + 1) (by omega) _) ?_
          intro hh9 he9
          rw [he9]
          clear he9 hh9
          exact g_ireturn rfl rfl (e_ok hc (by rw [e9]) hW (SE.rf _ _))
        · skip
          have hc : paC st t (i : Int) what = 0 := pk_t ⟨hh, hw⟩
          have e9 : paV st t (i : Int).toNat what j = rat ((st.1 (2 * st.2.2.1 t i))) j := if_pos c4
          refine g_aload rfl rfl ?_
          refine g_get (ci := 0) (kk := 0) rfl rfl (hW.node hpm) (hW.nodeb hpm) rfl ?_
          refine g_iload_n rfl rfl ?_
          refine g_V (z := yRw_at) (e := 1) (A := [aI j]) (rest := []) (v := aI (rat ((st.1 (2 * st.2.2.1 t i))) j)) (P := fun h2 => h2 = h) rfl rfl rfl rfl rfl rfl (by omega) (hW.row (by omega)) (hW.rowb (by omega)) (c_at hW (r := 2 * st.2.2.1 t i) (by omega) _) ?_
          intro hh9 he9
          rw [he9]
          clear he9 hh9
          refine g_goto rfl rfl ?_
          exact g_ireturn rfl rfl (e_ok hc (by rw [e9]) hW (SE.rf _ _))
      · skip
        have hc : paC st t (i : Int) what = 1 := pk_f (fun q => by omega)
        exact g_throw rfl rfl (by omega) (Nat.le_of_ble_eq_true rfl) (e_t1 hc hW (SE.rf _ _))
  · have hc : paC st t node what = 1 := pk_f (fun q => hh q.1)
    refine g_aload_n rfl rfl ?_
    refine g_iload_n rfl rfl ?_
    exact g_Vt (z := yTY_known) (e := 1) (A := [aI node]) (rest := []) (P := fun h2 => h2 = hthr h) rfl rfl rfl rfl rfl rfl (by omega) (hW.ty ht0 ht) hW.tyb rfl (c_knownT (by omega) hW ht ht0 hh) (fun h2 hp => by subst hp; exact e_t1 hc hW (SE.rf _ _))
noncomputable def toC (what : Int) : Int := pk (0 ≤ what ∧ what ≤ 2) 0 1
noncomputable def toV (st : CS) (t : Nat) (what : Int) : Int := if what = 0 then ((st.2.2.2.1 t) : Int) else if what = 1 then (st.1 121).length else lgF st t ((st.2.2.2.1 t) - 1) 1 0
theorem c_total (hd7 : 7 ≤ d) (hW : WC K h g st cb sb) (ht : t < 2) (ht0 : st.2.2.2.2.2 0 = (t : Int)) (what : Int) : Cal d yTY_total [aR (g 533), aI what] h (RO (toC what) (some (aI (toV st t what))) (PO K g (if toC what = 0 then st else st) t cb sb)) := by
  show Go _ _ 0 [aR (g 533), aI what] [] _ _
  refine g_iload_n rfl rfl ?_
  by_cases hk0 : what = 0
  · skip
    refine g_tabIn (off := 27) (t := 28) rfl (by omega) (by rw [hk0]; rfl) rfl ?_
    have hc : toC what = 0 := pk_t ⟨by omega, by omega⟩
    refine g_aload_n rfl rfl ?_
    refine g_get (ci := 7) (kk := 4) rfl rfl (hW.ty ht0 ht) hW.tyb rfl ?_
    refine g_get (ci := 4) (kk := 1) rfl rfl (hW.tree ht) (hW.treeb ht) rfl ?_
    exact g_ireturn rfl rfl (e_ok hc (by unfold toV; rw [if_pos hk0]) hW (SE.rf _ _))
  by_cases hk1 : what = 1
  · skip
    refine g_tabIn (off := 35) (t := 36) rfl (by omega) (by rw [hk1]; rfl) rfl ?_
    have hc : toC what = 0 := pk_t ⟨by omega, by omega⟩
    refine g_aload_n rfl rfl ?_
    refine g_get (ci := 7) (kk := 0) rfl rfl (hW.ty ht0 ht) hW.tyb rfl ?_
    refine g_get (ci := 3) (kk := 0) rfl rfl hW.tape hW.tapeb rfl ?_
    refine g_get (ci := 2) (kk := 1) rfl rfl (hW.row (by omega)) (hW.rowb (by omega)) rfl ?_
    exact g_ireturn rfl rfl (e_ok hc (by unfold toV; rw [if_neg (show ¬ what = 0 by omega), if_pos hk1]) hW (SE.rf _ _))
  by_cases hk2 : what = 2
  · skip
    refine g_tabIn (off := 46) (t := 47) rfl (by omega) (by rw [hk2]; rfl) rfl ?_
    have hc : toC what = 0 := pk_t ⟨by omega, by omega⟩
    refine g_aload_n rfl rfl ?_
    refine g_get (ci := 7) (kk := 4) rfl rfl (hW.ty ht0 ht) hW.tyb rfl ?_
    refine g_V (z := yTr_longestPath) (e := 1) (A := []) (rest := []) (v := aI (lgF st t ((st.2.2.2.1 t) - 1) 1 0)) (P := fun h2 => h2 = h) rfl rfl rfl rfl rfl rfl (by omega) (hW.tree ht) (hW.treeb ht) (c_longestPath (by omega) hW ht) ?_
    intro hh9 he9
    rw [he9]
    clear he9 hh9
    exact g_ireturn rfl rfl (e_ok hc (by unfold toV; rw [if_neg (show ¬ what = 0 by omega), if_neg (show ¬ what = 1 by omega)]) hW (SE.rf _ _))
  refine g_tabOut (t := 55) rfl (by omega) rfl ?_
  have hc : toC what = 1 := pk_f (fun q => by omega)
  exact g_throw rfl rfl (by omega) (Nat.le_of_ble_eq_true rfl) (e_t1 hc hW (SE.rf _ _))
noncomputable def wrC (st : CS) (t : Nat) : Int := pk (bfF st t ((st.2.2.2.1 t) - 1) 1 2 ≠ -1) 0 3
theorem SE.sW (hs : shp st) (ht : t < 2) (l p : List Int) (b : Int) : SE (uR st 121 l) (wS st l p b) t := by
  refine ⟨⟨rfl, fun i hi => ⟨fun k _ => rfl, ?_, ?_⟩⟩, by rw [uR_get]; rfl, rfl, rfl⟩
  · have := hs.1 t i ht (by have := (hs.2.2.1 t ht).2; have : ((uR st 121 l).2.2.2.1 t) = (st.2.2.2.1 t) := rfl; omega)
    show (if 2 * st.2.2.1 t i = 121 then l else if 2 * st.2.2.1 t i = 122 then p else st.1 (2 * st.2.2.1 t i)) = va_up st.1 121 l (2 * st.2.2.1 t i)
    rw [if_neg (by omega), if_neg (by omega), show va_up st.1 121 l (2 * st.2.2.1 t i) = st.1 (2 * st.2.2.1 t i) from if_neg (by omega)]
  · have := hs.1 t i ht (by have := (hs.2.2.1 t ht).2; have : ((uR st 121 l).2.2.2.1 t) = (st.2.2.2.1 t) := rfl; omega)
    show (if 2 * st.2.2.1 t i + 1 = 121 then l else if 2 * st.2.2.1 t i + 1 = 122 then p else st.1 (2 * st.2.2.1 t i + 1)) = va_up st.1 121 l (2 * st.2.2.1 t i + 1)
    rw [if_neg (by omega), if_neg (by omega), show va_up st.1 121 l (2 * st.2.2.1 t i + 1) = st.1 (2 * st.2.2.1 t i + 1) from if_neg (by omega)]
theorem SE.sW0 (hs : shp st) (ht : t < 2) (p : List Int) (b : Int) : SE st (wS st (st.1 121) p b) t := by
  have k := SE.sW hs ht (st.1 121) p b
  rw [uR_self] at k
  exact k
theorem c_write (hd7 : 7 ≤ d) (hK : KOK K) (hT : TI st t) (hW : WC K h g st cb sb) (ht : t < 2) (ht0 : st.2.2.2.2.2 0 = (t : Int)) : Cal d yTY_write [aR (g 533)] h (RO (wrC st t) (some (aI (bfF st t ((st.2.2.2.1 t) - 1) 1 2))) (PO K g (if wrC st t = 0 then uR st 121 (wrT st t (bfF st t ((st.2.2.2.1 t) - 1) 1 2)).1 else st) t cb sb)) := by
  have hsh := hW.shq
  rw [← wS_self st] at hW
  have ht0' : (wS st (st.1 121) (st.1 122) (st.2.2.2.2.2 2)).2.2.2.2.2 0 = (t : Int) := ht0
  generalize st.1 122 = p0 at hW ht0'
  generalize st.2.2.2.2.2 2 = b0 at hW ht0'
  show Go _ _ 0 [aR (g 533), none] [] _ _
  refine g_aload_n rfl rfl ?_
  refine g_get (ci := 7) (kk := 1) rfl rfl (hW.ty (t := t) ht0 ht) hW.tyb rfl ?_
  refine g_aload_n rfl rfl ?_
  refine g_get (ci := 7) (kk := 4) rfl rfl (hW.ty (t := t) ht0 ht) hW.tyb rfl ?_
  refine g_V (z := yWr_blocksFor) (e := 1) (A := [aR (g (500 + t))]) (rest := []) (v := aI (bfF st t ((st.2.2.2.1 t) - 1) 1 2))  rfl rfl rfl rfl rfl rfl (by omega) hW.wr hW.wrb (c_blocksFor (by omega) hT hW ht) ?_
  intro hh1 hq
  obtain ⟨p1, hW⟩ := hq
  refine g_istore_n (L' := [aR (g 533), aI (bfF st t ((st.2.2.2.1 t) - 1) 1 2)]) rfl rfl ?_
  refine g_iload_n rfl rfl ?_
  refine g_iconst (n := -1) rfl (by decide) ?_
  refine g_icmpne rfl rfl (fun c2 => ?_) (fun c2 => ?_)
  · skip
    have hc : wrC st t = 0 := pk_t c2
    refine g_aload_n rfl rfl ?_
    refine g_get (ci := 7) (kk := 1) rfl rfl (hW.ty (t := t) ht0 ht) hW.tyb rfl ?_
    refine g_aload_n rfl rfl ?_
    refine g_get (ci := 7) (kk := 4) rfl rfl (hW.ty (t := t) ht0 ht) hW.tyb rfl ?_
    refine g_iload_n rfl rfl ?_
    refine g_Vn (z := yWr_putTree) (e := 1) (A := [aI (bfF st t ((st.2.2.2.1 t) - 1) 1 2), aR (g (500 + t))]) (rest := [])  rfl rfl rfl rfl rfl rfl (by omega) hW.wr hW.wrb (c_putTree (by omega) hK hT hW ht (by assumption)) ?_
    intro hh3 hq
    obtain ⟨p2, b2, hW⟩ := hq
    refine g_iload_n rfl rfl ?_
    exact g_ireturn rfl rfl (e_ok hc rfl hW (SE.sW hsh ht _ _ _))
  · skip
    have hc : wrC st t = 3 := pk_f (fun q => q c2)
    exact g_throw rfl rfl (by omega) (Nat.le_of_ble_eq_true rfl) (e_t3 hc hW (SE.sW0 hsh ht _ _))
end TY2C
