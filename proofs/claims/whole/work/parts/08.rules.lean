/-! AM: more fuel does no harm; the judgement Go; a rule for each instruction. -/
theorem aft_le {G G' : AG} (hG : ∀ d y pc L S h r, G d y pc L S h = some r → G' d y pc L S h = some r) {d : Nat} {y : AY} {pc : Nat} {L rest : List AV} {q r : AO × AH} (e : aft G d y pc L rest q = some r) : aft G' d y pc L rest q = some r := by
  obtain ⟨o, h'⟩ := q
  rcases o with (_ | v) | ⟨k, x⟩
  · exact hG _ _ _ _ _ _ _ e
  · exact hG _ _ _ _ _ _ _ e
  · simp only [aft] at e ⊢
    cases ht : tH y.1 k with
    | some t =>
      simp only [ht] at e ⊢
      exact hG _ _ _ _ _ _ _ e
    | none =>
      simp only [ht] at e ⊢
      exact e
theorem gob_le {G G' : AG} (hG : ∀ d y pc L S h r, G d y pc L S h = some r → G' d y pc L S h = some r) {d : Nat} {y : AY} {pc : Nat} {L S : List AV} {h : AH} {r : AO × AH} (e : gob G d y pc L S h = some r) : gob G' d y pc L S h = some r := by
  unfold gob at e ⊢
  cases hd : tb y pc with
  | none => simp only [hd] at e; cases e
  | some il =>
    obtain ⟨i, len⟩ := il
    simp only [hd] at e ⊢
    cases hf : fin d y i len pc S h with
    | some q => simp only [hf] at e ⊢; exact e
    | none =>
      simp only [hf] at e ⊢
      cases hc : cal y i len S h with
      | some q =>
        obtain ⟨z, As, rest⟩ := q
        simp only [hc] at e ⊢
        by_cases hl : lv z ≤ d
        · rw [if_pos hl] at e ⊢
          cases hg : G (d - lv z) z 0 (ent z As) [] h with
          | none => rw [hg] at e; cases e
          | some q =>
            rw [hg] at e
            rw [hG _ _ _ _ _ _ _ hg]
            exact aft_le hG e
        · rw [if_neg hl] at e; cases e
      | none =>
        simp only [hc] at e ⊢
        cases hb : blt y i len S h with
        | some q =>
          obtain ⟨S', h'⟩ := q
          simp only [hb] at e ⊢
          exact hG _ _ _ _ _ _ _ e
        | none =>
          simp only [hb] at e ⊢
          cases hs : stp y i len pc L S h with
          | none => simp only [hs] at e; cases e
          | some q =>
            obtain ⟨pc', L', S', h'⟩ := q
            simp only [hs] at e ⊢
            exact hG _ _ _ _ _ _ _ e
theorem go_s : ∀ (n : Nat) (d : Nat) (y : AY) (pc : Nat) (L S : List AV) (h : AH) (r : AO × AH), go n d y pc L S h = some r → go (n + 1) d y pc L S h = some r := by
  intro n
  induction n with
  | zero => intro d y pc L S h r e; cases e
  | succ n ih =>
    intro d y pc L S h r e
    exact gob_le (G := go n) (G' := go (n + 1)) ih e
theorem go_le {n m : Nat} (hnm : n ≤ m) {d : Nat} {y : AY} {pc : Nat} {L S : List AV} {h : AH} {r : AO × AH} (e : go n d y pc L S h = some r) : go m d y pc L S h = some r := by
  induction hnm with
  | refl => exact e
  | step _ ih => exact go_s _ _ _ _ _ _ _ _ ih
/-- the method y, at pc with these variables and this stack over the heap h and d calls deep at most, comes to an end with Q -/
def Go (d : Nat) (y : AY) (pc : Nat) (L S : List AV) (h : AH) (Q : AO → AH → Prop) : Prop := ∃ n r, go n d y pc L S h = some r ∧ Q r.1 r.2
abbrev Cal (d : Nat) (y : AY) (As : List AV) (h : AH) (Q : AO → AH → Prop) : Prop := Go d y 0 (ent y As) [] h Q
def aftQ (d : Nat) (y : AY) (pc : Nat) (L rest : List AV) (Q : AO → AH → Prop) (o : AO) (h' : AH) : Prop := match o with
  | .inl (some v) => Go d y (pc + 3) L (v :: rest) h' Q
  | .inl none => Go d y (pc + 3) L rest h' Q
  | .inr (k, x) => match tH y.1 k with
    | some t => Go d y t L [aR x] h' Q
    | none => Q (.inr (k, x)) h'
section GoRules
variable {d : Nat} {y : AY} {pc : Nat} {L S : List AV} {h : AH} {Q : AO → AH → Prop}
theorem Go.mono {Q' : AO → AH → Prop} (k : Go d y pc L S h Q) (hQ : ∀ o h', Q o h' → Q' o h') : Go d y pc L S h Q' := by
  obtain ⟨n, r, e, q⟩ := k
  exact ⟨n, r, e, hQ _ _ q⟩
theorem Go.eq {pc' : Nat} {L' S' : List AV} {h' : AH} (e1 : pc' = pc) (e2 : L' = L) (e3 : S' = S) (e4 : h' = h) (k : Go d y pc' L' S' h' Q) : Go d y pc L S h Q := by
  subst e1; subst e2; subst e3; subst e4; exact k
theorem Go.st {i : Jvm.ClassFile.Instr} {len pc' : Nat} {L' S' : List AV} {h' : AH} (hd : tb y pc = some (i, len)) (h1 : fin d y i len pc S h = none) (h2 : cal y i len S h = none) (h3 : blt y i len S h = none) (h4 : stp y i len pc L S h = some (pc', L', S', h')) (k : Go d y pc' L' S' h' Q) : Go d y pc L S h Q := by
  obtain ⟨n, r, e, q⟩ := k
  refine ⟨n + 1, r, ?_, q⟩
  show gob (go n) d y pc L S h = some r
  simp only [gob, hd, h1, h2, h3, h4]
  exact e
theorem Go.end {i : Jvm.ClassFile.Instr} {len : Nat} {r : AO × AH} (hd : tb y pc = some (i, len)) (h1 : fin d y i len pc S h = some r) (q : Q r.1 r.2) : Go d y pc L S h Q := by
  refine ⟨1, r, ?_, q⟩
  show gob (go 0) d y pc L S h = some r
  simp only [gob, hd, h1]
theorem Go.bl {i : Jvm.ClassFile.Instr} {len : Nat} {S' : List AV} {h' : AH} (hd : tb y pc = some (i, len)) (h1 : fin d y i len pc S h = none) (h2 : cal y i len S h = none) (h3 : blt y i len S h = some (S', h')) (k : Go d y (pc + 3) L S' h' Q) : Go d y pc L S h Q := by
  obtain ⟨n, r, e, q⟩ := k
  refine ⟨n + 1, r, ?_, q⟩
  show gob (go n) d y pc L S h = some r
  simp only [gob, hd, h1, h2, h3]
  exact e
theorem Go.call {i : Jvm.ClassFile.Instr} {len e : Nat} {z : AY} {As rest : List AV} (hd : tb y pc = some (i, len)) (h1 : fin d y i len pc S h = none) (h2 : cal y i len S h = some (z, As, rest)) (hl : lv z = e) (he : e ≤ d) (k : Cal (d - e) z As h (aftQ d y pc L rest Q)) : Go d y pc L S h Q := by
  subst hl
  obtain ⟨n1, ⟨o, h'⟩, e1, q1⟩ := k
  have fin1 : ∀ (n2 : Nat) (r : AO × AH), aft (go n2) d y pc L rest (o, h') = some r → Q r.1 r.2 → Go d y pc L S h Q := by
    intro n2 r e2 q
    refine ⟨max n1 n2 + 1, r, ?_, q⟩
    show gob (go (max n1 n2)) d y pc L S h = some r
    have e3 := go_le (Nat.le_max_left n1 n2) e1
    simp only [gob, hd, h1, h2]
    rw [if_pos he, e3]
    exact aft_le (fun _ _ _ _ _ _ _ e => go_le (Nat.le_max_right n1 n2) e) e2
  rcases o with (_ | v) | ⟨k, x⟩
  · obtain ⟨n2, r, e2, q⟩ := q1
    exact fin1 n2 r e2 q
  · obtain ⟨n2, r, e2, q⟩ := q1
    exact fin1 n2 r e2 q
  · simp only [aftQ] at q1
    cases ht : tH y.1 k with
    | some t =>
      simp only [ht] at q1
      obtain ⟨n2, r, e2, q⟩ := q1
      exact fin1 n2 r (by simp only [aft, ht]; exact e2) q
    | none =>
      simp only [ht] at q1
      exact fin1 0 (.inr (k, x), h') (by simp only [aft, ht]) q1
theorem a32_id {x : Int} (h1 : -2147483648 ≤ x) (h2 : x ≤ 2147483647) : a32 x = x := Int32.toInt_ofInt_of_le h1 (by omega)
theorem a64_id {x : Int} (h1 : -9223372036854775808 ≤ x) (h2 : x ≤ 9223372036854775807) : a64 x = x := Int64.toInt_ofInt_of_le h1 (by omega)
theorem a8_id {x : Int} (h1 : -128 ≤ x) (h2 : x ≤ 127) : a8 x = x := Int8.toInt_ofInt_of_le h1 (by omega)
theorem g_iconst {n : Int} (hd : tb y pc = some (.iconst n, 1)) (hn : -1 ≤ n ∧ n ≤ 5) (k : Go d y (pc + 1) L (aI n :: S) h Q) : Go d y pc L S h Q := Go.st hd rfl rfl rfl (by simp only [stp]; exact if_pos hn) k
theorem g_bipush {n : Int} (hd : tb y pc = some (.bipush n, 2)) (hn : -128 ≤ n ∧ n ≤ 127) (k : Go d y (pc + 2) L (aI n :: S) h Q) : Go d y pc L S h Q := Go.st hd rfl rfl rfl (by simp only [stp]; exact if_pos hn) k
theorem g_sipush {n : Int} (hd : tb y pc = some (.sipush n, 3)) (hn : -32768 ≤ n ∧ n ≤ 32767) (k : Go d y (pc + 3) L (aI n :: S) h Q) : Go d y pc L S h Q := Go.st hd rfl rfl rfl (by simp only [stp]; exact if_pos hn) k
theorem g_lconst {n : Fin 2} {m : Int} (hd : tb y pc = some (.lconst n, 1)) (hm : ((n : Nat) : Int) = m) (k : Go d y (pc + 1) L (aL m :: S) h Q) : Go d y pc L S h Q := by subst hm; exact Go.st hd rfl rfl rfl rfl k
theorem g_ldc {x : Nat} {v : Int} (hd : tb y pc = some (.ldc x, 2)) (hv : tI y.2.1 x = some v) (k : Go d y (pc + 2) L (aI v :: S) h Q) : Go d y pc L S h Q := Go.st hd rfl rfl rfl (by simp only [stp, hv] <;> rfl) k
theorem g_ldc2 {x : Nat} {v : Int} (hd : tb y pc = some (.ldc2_w x, 3)) (hv : tJ y.2.1 x = some v) (k : Go d y (pc + 3) L (aL v :: S) h Q) : Go d y pc L S h Q := Go.st hd rfl rfl rfl (by simp only [stp, hv] <;> rfl) k
theorem g_iload {i : Nat} {x : Int} (hd : tb y pc = some (.iload i, 2)) (hl : L.getD i none = aI x) (k : Go d y (pc + 2) L (aI x :: S) h Q) : Go d y pc L S h Q := Go.st hd rfl rfl rfl (by simp only [stp, s_ldi, hl]) k
theorem g_iload_n {i : Fin 4} {x : Int} (hd : tb y pc = some (.iload_n i, 1)) (hl : L.getD i none = aI x) (k : Go d y (pc + 1) L (aI x :: S) h Q) : Go d y pc L S h Q := Go.st hd rfl rfl rfl (by simp only [stp, s_ldi, hl]) k
theorem g_lload {i : Nat} {x : Int} (hd : tb y pc = some (.lload i, 2)) (hl : L.getD i none = aL x) (k : Go d y (pc + 2) L (aL x :: S) h Q) : Go d y pc L S h Q := Go.st hd rfl rfl rfl (by simp only [stp, s_ldl, hl]) k
theorem g_lload_n {i : Fin 4} {x : Int} (hd : tb y pc = some (.lload_n i, 1)) (hl : L.getD i none = aL x) (k : Go d y (pc + 1) L (aL x :: S) h Q) : Go d y pc L S h Q := Go.st hd rfl rfl rfl (by simp only [stp, s_ldl, hl]) k
theorem g_aload {i x : Nat} (hd : tb y pc = some (.aload i, 2)) (hl : L.getD i none = aR x) (k : Go d y (pc + 2) L (aR x :: S) h Q) : Go d y pc L S h Q := Go.st hd rfl rfl rfl (by simp only [stp, s_lda, hl]) k
theorem g_aload_n {i : Fin 4} {x : Nat} (hd : tb y pc = some (.aload_n i, 1)) (hl : L.getD i none = aR x) (k : Go d y (pc + 1) L (aR x :: S) h Q) : Go d y pc L S h Q := Go.st hd rfl rfl rfl (by simp only [stp, s_lda, hl]) k
theorem g_istore {i : Nat} {x : Int} {L' : List AV} (hd : tb y pc = some (.istore i, 2)) (hl : a_st1 L i (aI x) = some L') (k : Go d y (pc + 2) L' S h Q) : Go d y pc L (aI x :: S) h Q := Go.st hd rfl rfl rfl (by simp only [stp, s_sti, hl] <;> rfl) k
theorem g_istore_n {i : Fin 4} {x : Int} {L' : List AV} (hd : tb y pc = some (.istore_n i, 1)) (hl : a_st1 L i (aI x) = some L') (k : Go d y (pc + 1) L' S h Q) : Go d y pc L (aI x :: S) h Q := Go.st hd rfl rfl rfl (by simp only [stp, s_sti, hl] <;> rfl) k
theorem g_lstore {i : Nat} {x : Int} {L' : List AV} (hd : tb y pc = some (.lstore i, 2)) (hl : a_st2 L i (aL x) = some L') (k : Go d y (pc + 2) L' S h Q) : Go d y pc L (aL x :: S) h Q := Go.st hd rfl rfl rfl (by simp only [stp, s_stl, hl] <;> rfl) k
theorem g_lstore_n {i : Fin 4} {x : Int} {L' : List AV} (hd : tb y pc = some (.lstore_n i, 1)) (hl : a_st2 L i (aL x) = some L') (k : Go d y (pc + 1) L' S h Q) : Go d y pc L (aL x :: S) h Q := Go.st hd rfl rfl rfl (by simp only [stp, s_stl, hl] <;> rfl) k
theorem g_astore {i x : Nat} {L' : List AV} (hd : tb y pc = some (.astore i, 2)) (hl : a_st1 L i (aR x) = some L') (k : Go d y (pc + 2) L' S h Q) : Go d y pc L (aR x :: S) h Q := Go.st hd rfl rfl rfl (by simp only [stp, s_sta, hl] <;> rfl) k
theorem g_astore_n {i : Fin 4} {x : Nat} {L' : List AV} (hd : tb y pc = some (.astore_n i, 1)) (hl : a_st1 L i (aR x) = some L') (k : Go d y (pc + 1) L' S h Q) : Go d y pc L (aR x :: S) h Q := Go.st hd rfl rfl rfl (by simp only [stp, s_sta, hl] <;> rfl) k
theorem g_iinc {i : Nat} {c x : Int} {L' : List AV} (hd : tb y pc = some (.iinc i c, 3)) (hx : L.getD i none = aI x) (hr : -2147483648 ≤ x + c ∧ x + c ≤ 2147483647) (hl : a_st1 L i (aI (x + c)) = some L') (k : Go d y (pc + 3) L' S h Q) : Go d y pc L S h Q := Go.st hd rfl rfl rfl (by simp only [stp, s_inc, hx, a32_id hr.1 hr.2, hl] <;> rfl) k
theorem g_iincw {i : Nat} {c x : Int} {L' : List AV} (hd : tb y pc = some (.iinc i c, 6)) (hx : L.getD i none = aI x) (hr : -2147483648 ≤ x + c ∧ x + c ≤ 2147483647) (hl : a_st1 L i (aI (x + c)) = some L') (k : Go d y (pc + 6) L' S h Q) : Go d y pc L S h Q := Go.st hd rfl rfl rfl (by simp only [stp, s_inc, hx, a32_id hr.1 hr.2, hl] <;> rfl) k
theorem g_iadd {x z : Int} (hd : tb y pc = some (.iadd, 1)) (hr : -2147483648 ≤ x + z ∧ x + z ≤ 2147483647) (k : Go d y (pc + 1) L (aI (x + z) :: S) h Q) : Go d y pc L (aI z :: aI x :: S) h Q := Go.st hd rfl rfl rfl (by simp only [stp, s_ii, a32_id hr.1 hr.2]) k
theorem g_iaddw {x z : Int} (hd : tb y pc = some (.iadd, 1)) (k : Go d y (pc + 1) L (aI (a32 (x + z)) :: S) h Q) : Go d y pc L (aI z :: aI x :: S) h Q := Go.st hd rfl rfl rfl rfl k
theorem g_isub {x z : Int} (hd : tb y pc = some (.isub, 1)) (hr : -2147483648 ≤ x - z ∧ x - z ≤ 2147483647) (k : Go d y (pc + 1) L (aI (x - z) :: S) h Q) : Go d y pc L (aI z :: aI x :: S) h Q := Go.st hd rfl rfl rfl (by simp only [stp, s_ii, a32_id hr.1 hr.2]) k
theorem g_isubw {x z : Int} (hd : tb y pc = some (.isub, 1)) (k : Go d y (pc + 1) L (aI (a32 (x - z)) :: S) h Q) : Go d y pc L (aI z :: aI x :: S) h Q := Go.st hd rfl rfl rfl rfl k
theorem g_imul {x z : Int} (hd : tb y pc = some (.imul, 1)) (hr : -2147483648 ≤ x * z ∧ x * z ≤ 2147483647) (k : Go d y (pc + 1) L (aI (x * z) :: S) h Q) : Go d y pc L (aI z :: aI x :: S) h Q := Go.st hd rfl rfl rfl (by simp only [stp, s_ii, a32_id hr.1 hr.2]) k
theorem g_imulw {x z : Int} (hd : tb y pc = some (.imul, 1)) (k : Go d y (pc + 1) L (aI (a32 (x * z)) :: S) h Q) : Go d y pc L (aI z :: aI x :: S) h Q := Go.st hd rfl rfl rfl rfl k
theorem g_iand {x z v : Int} (hd : tb y pc = some (.iand, 1)) (hv : a_and x z = v) (k : Go d y (pc + 1) L (aI v :: S) h Q) : Go d y pc L (aI z :: aI x :: S) h Q := by subst hv; exact Go.st hd rfl rfl rfl rfl k
theorem g_iushr {x z v : Int} (hd : tb y pc = some (.iushr, 1)) (hv : a_ushr x z = v) (k : Go d y (pc + 1) L (aI v :: S) h Q) : Go d y pc L (aI z :: aI x :: S) h Q := by subst hv; exact Go.st hd rfl rfl rfl rfl k
theorem g_idiv {x z v : Int} (hd : tb y pc = some (.idiv, 1)) (hz : ¬ z = 0) (hv : a_div x z = v) (k : Go d y (pc + 1) L (aI v :: S) h Q) : Go d y pc L (aI z :: aI x :: S) h Q := by subst hv; exact Go.st hd rfl rfl rfl (by simp only [stp, s_idv]; exact if_neg hz) k
theorem g_ineg {x : Int} (hd : tb y pc = some (.ineg, 1)) (hr : -2147483648 ≤ -x ∧ -x ≤ 2147483647) (k : Go d y (pc + 1) L (aI (-x) :: S) h Q) : Go d y pc L (aI x :: S) h Q := Go.st hd rfl rfl rfl (by simp only [stp, s_i2i, a32_id hr.1 hr.2]) k
theorem g_i2b {x : Int} (hd : tb y pc = some (.i2b, 1)) (k : Go d y (pc + 1) L (aI (a8 x) :: S) h Q) : Go d y pc L (aI x :: S) h Q := Go.st hd rfl rfl rfl rfl k
theorem g_i2l {x : Int} (hd : tb y pc = some (.i2l, 1)) (k : Go d y (pc + 1) L (aL x :: S) h Q) : Go d y pc L (aI x :: S) h Q := Go.st hd rfl rfl rfl rfl k
theorem g_l2i {x v : Int} (hd : tb y pc = some (.l2i, 1)) (hv : a32 x = v) (k : Go d y (pc + 1) L (aI v :: S) h Q) : Go d y pc L (aL x :: S) h Q := by subst hv; exact Go.st hd rfl rfl rfl rfl k
theorem g_ladd {x z : Int} (hd : tb y pc = some (.ladd, 1)) (hr : -9223372036854775808 ≤ x + z ∧ x + z ≤ 9223372036854775807) (k : Go d y (pc + 1) L (aL (x + z) :: S) h Q) : Go d y pc L (aL z :: aL x :: S) h Q := Go.st hd rfl rfl rfl (by simp only [stp, s_ll, a64_id hr.1 hr.2]) k
theorem g_lsub {x z : Int} (hd : tb y pc = some (.lsub, 1)) (hr : -9223372036854775808 ≤ x - z ∧ x - z ≤ 9223372036854775807) (k : Go d y (pc + 1) L (aL (x - z) :: S) h Q) : Go d y pc L (aL z :: aL x :: S) h Q := Go.st hd rfl rfl rfl (by simp only [stp, s_ll, a64_id hr.1 hr.2]) k
theorem g_lmul {x z : Int} (hd : tb y pc = some (.lmul, 1)) (hr : -9223372036854775808 ≤ x * z ∧ x * z ≤ 9223372036854775807) (k : Go d y (pc + 1) L (aL (x * z) :: S) h Q) : Go d y pc L (aL z :: aL x :: S) h Q := Go.st hd rfl rfl rfl (by simp only [stp, s_ll, a64_id hr.1 hr.2]) k
theorem g_land {x z v : Int} (hd : tb y pc = some (.land, 1)) (hv : a_land x z = v) (k : Go d y (pc + 1) L (aL v :: S) h Q) : Go d y pc L (aL z :: aL x :: S) h Q := by subst hv; exact Go.st hd rfl rfl rfl rfl k
theorem g_lor {x z v : Int} (hd : tb y pc = some (.lor, 1)) (hv : a_lor x z = v) (k : Go d y (pc + 1) L (aL v :: S) h Q) : Go d y pc L (aL z :: aL x :: S) h Q := by subst hv; exact Go.st hd rfl rfl rfl rfl k
theorem g_ldiv {x z v : Int} (hd : tb y pc = some (.ldiv, 1)) (hz : ¬ z = 0) (hv : a_ldiv x z = v) (k : Go d y (pc + 1) L (aL v :: S) h Q) : Go d y pc L (aL z :: aL x :: S) h Q := by subst hv; exact Go.st hd rfl rfl rfl (by simp only [stp, s_ldv]; exact if_neg hz) k
theorem g_lrem {x z v : Int} (hd : tb y pc = some (.lrem, 1)) (hz : ¬ z = 0) (hv : a_lrem x z = v) (k : Go d y (pc + 1) L (aL v :: S) h Q) : Go d y pc L (aL z :: aL x :: S) h Q := by subst hv; exact Go.st hd rfl rfl rfl (by simp only [stp, s_ldv]; exact if_neg hz) k
theorem g_lshl {x z v : Int} (hd : tb y pc = some (.lshl, 1)) (hv : a_lshl x z = v) (k : Go d y (pc + 1) L (aL v :: S) h Q) : Go d y pc L (aI z :: aL x :: S) h Q := by subst hv; exact Go.st hd rfl rfl rfl rfl k
theorem g_lshr {x z v : Int} (hd : tb y pc = some (.lshr, 1)) (hv : a_lshr x z = v) (k : Go d y (pc + 1) L (aL v :: S) h Q) : Go d y pc L (aI z :: aL x :: S) h Q := by subst hv; exact Go.st hd rfl rfl rfl rfl k
theorem g_lushr {x z v : Int} (hd : tb y pc = some (.lushr, 1)) (hv : a_lushr x z = v) (k : Go d y (pc + 1) L (aL v :: S) h Q) : Go d y pc L (aI z :: aL x :: S) h Q := by subst hv; exact Go.st hd rfl rfl rfl rfl k
theorem g_lcmp {x z : Int} (hd : tb y pc = some (.lcmp, 1)) (k : Go d y (pc + 1) L (aI (a_lcmp x z) :: S) h Q) : Go d y pc L (aL z :: aL x :: S) h Q := Go.st hd rfl rfl rfl rfl k
theorem g_dup {v : AV} (hd : tb y pc = some (.dup, 1)) (hv : a_one v = true) (k : Go d y (pc + 1) L (v :: v :: S) h Q) : Go d y pc L (v :: S) h Q := Go.st hd rfl rfl rfl (by simp only [stp, s_dup, hv] <;> rfl) k
theorem g_pop {v : AV} (hd : tb y pc = some (.pop, 1)) (hv : a_one v = true) (k : Go d y (pc + 1) L S h Q) : Go d y pc L (v :: S) h Q := Go.st hd rfl rfl rfl (by simp only [stp, s_pop, hv] <;> rfl) k
theorem g_dup2 {v w : AV} (hd : tb y pc = some (.dup2, 1)) (hv : a_one v = true) (hw : a_one w = true) (k : Go d y (pc + 1) L (v :: w :: v :: w :: S) h Q) : Go d y pc L (v :: w :: S) h Q := Go.st hd rfl rfl rfl (by simp only [stp, s_dup2, hv, hw] <;> rfl) k
theorem g_if {c : Jvm.ClassFile.Cond} {off : Int} {t : Nat} {x : Int} (hd : tb y pc = some (.ifCond c off, 3)) (ht : a_nxt pc off = some t) (k1 : a_cnd c x 0 = true → Go d y t L S h Q) (k2 : a_cnd c x 0 = false → Go d y (pc + 3) L S h Q) : Go d y pc L (aI x :: S) h Q := by
  cases hc : a_cnd c x 0 with
  | true => exact Go.st hd rfl rfl rfl (by simp only [stp, s_if, ht, hc] <;> rfl) (k1 hc)
  | false => exact Go.st hd rfl rfl rfl (by simp only [stp, s_if, ht, hc] <;> rfl) (k2 hc)
theorem g_icmp {c : Jvm.ClassFile.Cond} {off : Int} {t : Nat} {x z : Int} (hd : tb y pc = some (.if_icmp c off, 3)) (ht : a_nxt pc off = some t) (k1 : a_cnd c x z = true → Go d y t L S h Q) (k2 : a_cnd c x z = false → Go d y (pc + 3) L S h Q) : Go d y pc L (aI z :: aI x :: S) h Q := by
  cases hc : a_cnd c x z with
  | true => exact Go.st hd rfl rfl rfl (by simp only [stp, s_icmp, ht, hc] <;> rfl) (k1 hc)
  | false => exact Go.st hd rfl rfl rfl (by simp only [stp, s_icmp, ht, hc] <;> rfl) (k2 hc)
theorem g_ifeq {off : Int} {t : Nat} {x : Int} (hd : tb y pc = some (.ifCond .eq off, 3)) (ht : a_nxt pc off = some t) (k1 : x = 0 → Go d y t L S h Q) (k2 : x ≠ 0 → Go d y (pc + 3) L S h Q) : Go d y pc L (aI x :: S) h Q := g_if hd ht (fun e => k1 (of_decide_eq_true e)) (fun e => k2 (of_decide_eq_false e))
theorem g_ifne {off : Int} {t : Nat} {x : Int} (hd : tb y pc = some (.ifCond .ne off, 3)) (ht : a_nxt pc off = some t) (k1 : x ≠ 0 → Go d y t L S h Q) (k2 : x = 0 → Go d y (pc + 3) L S h Q) : Go d y pc L (aI x :: S) h Q := g_if hd ht (fun e => k1 (of_decide_eq_true e)) (fun e => k2 (Decidable.of_not_not (of_decide_eq_false e)))
theorem g_iflt {off : Int} {t : Nat} {x : Int} (hd : tb y pc = some (.ifCond .lt off, 3)) (ht : a_nxt pc off = some t) (k1 : x < 0 → Go d y t L S h Q) (k2 : 0 ≤ x → Go d y (pc + 3) L S h Q) : Go d y pc L (aI x :: S) h Q := g_if hd ht (fun e => k1 (of_decide_eq_true e)) (fun e => k2 (Int.not_lt.mp (of_decide_eq_false e)))
theorem g_ifge {off : Int} {t : Nat} {x : Int} (hd : tb y pc = some (.ifCond .ge off, 3)) (ht : a_nxt pc off = some t) (k1 : 0 ≤ x → Go d y t L S h Q) (k2 : x < 0 → Go d y (pc + 3) L S h Q) : Go d y pc L (aI x :: S) h Q := g_if hd ht (fun e => k1 (of_decide_eq_true e)) (fun e => k2 (Int.not_le.mp (of_decide_eq_false e)))
theorem g_ifgt {off : Int} {t : Nat} {x : Int} (hd : tb y pc = some (.ifCond .gt off, 3)) (ht : a_nxt pc off = some t) (k1 : 0 < x → Go d y t L S h Q) (k2 : x ≤ 0 → Go d y (pc + 3) L S h Q) : Go d y pc L (aI x :: S) h Q := g_if hd ht (fun e => k1 (of_decide_eq_true e)) (fun e => k2 (Int.not_lt.mp (of_decide_eq_false e)))
theorem g_ifle {off : Int} {t : Nat} {x : Int} (hd : tb y pc = some (.ifCond .le off, 3)) (ht : a_nxt pc off = some t) (k1 : x ≤ 0 → Go d y t L S h Q) (k2 : 0 < x → Go d y (pc + 3) L S h Q) : Go d y pc L (aI x :: S) h Q := g_if hd ht (fun e => k1 (of_decide_eq_true e)) (fun e => k2 (Int.not_le.mp (of_decide_eq_false e)))
theorem g_icmpeq {off : Int} {t : Nat} {x z : Int} (hd : tb y pc = some (.if_icmp .eq off, 3)) (ht : a_nxt pc off = some t) (k1 : x = z → Go d y t L S h Q) (k2 : x ≠ z → Go d y (pc + 3) L S h Q) : Go d y pc L (aI z :: aI x :: S) h Q := g_icmp hd ht (fun e => k1 (of_decide_eq_true e)) (fun e => k2 (of_decide_eq_false e))
theorem g_icmpne {off : Int} {t : Nat} {x z : Int} (hd : tb y pc = some (.if_icmp .ne off, 3)) (ht : a_nxt pc off = some t) (k1 : x ≠ z → Go d y t L S h Q) (k2 : x = z → Go d y (pc + 3) L S h Q) : Go d y pc L (aI z :: aI x :: S) h Q := g_icmp hd ht (fun e => k1 (of_decide_eq_true e)) (fun e => k2 (Decidable.of_not_not (of_decide_eq_false e)))
theorem g_icmplt {off : Int} {t : Nat} {x z : Int} (hd : tb y pc = some (.if_icmp .lt off, 3)) (ht : a_nxt pc off = some t) (k1 : x < z → Go d y t L S h Q) (k2 : z ≤ x → Go d y (pc + 3) L S h Q) : Go d y pc L (aI z :: aI x :: S) h Q := g_icmp hd ht (fun e => k1 (of_decide_eq_true e)) (fun e => k2 (Int.not_lt.mp (of_decide_eq_false e)))
theorem g_icmpge {off : Int} {t : Nat} {x z : Int} (hd : tb y pc = some (.if_icmp .ge off, 3)) (ht : a_nxt pc off = some t) (k1 : z ≤ x → Go d y t L S h Q) (k2 : x < z → Go d y (pc + 3) L S h Q) : Go d y pc L (aI z :: aI x :: S) h Q := g_icmp hd ht (fun e => k1 (of_decide_eq_true e)) (fun e => k2 (Int.not_le.mp (of_decide_eq_false e)))
theorem g_icmpgt {off : Int} {t : Nat} {x z : Int} (hd : tb y pc = some (.if_icmp .gt off, 3)) (ht : a_nxt pc off = some t) (k1 : z < x → Go d y t L S h Q) (k2 : x ≤ z → Go d y (pc + 3) L S h Q) : Go d y pc L (aI z :: aI x :: S) h Q := g_icmp hd ht (fun e => k1 (of_decide_eq_true e)) (fun e => k2 (Int.not_lt.mp (of_decide_eq_false e)))
theorem g_icmple {off : Int} {t : Nat} {x z : Int} (hd : tb y pc = some (.if_icmp .le off, 3)) (ht : a_nxt pc off = some t) (k1 : x ≤ z → Go d y t L S h Q) (k2 : z < x → Go d y (pc + 3) L S h Q) : Go d y pc L (aI z :: aI x :: S) h Q := g_icmp hd ht (fun e => k1 (of_decide_eq_true e)) (fun e => k2 (Int.not_le.mp (of_decide_eq_false e)))
theorem g_goto {off : Int} {t : Nat} (hd : tb y pc = some (.goto off, 3)) (ht : a_nxt pc off = some t) (k : Go d y t L S h Q) : Go d y pc L S h Q := Go.st hd rfl rfl rfl (by simp only [stp, s_goto, ht] <;> rfl) k
theorem g_tabOut {dflt lo hi : Int} {offs : Array Int} {len t : Nat} {x : Int} (hd : tb y pc = some (.tableswitch dflt lo hi offs, len)) (hx : x < lo ∨ hi < x) (ht : a_nxt pc dflt = some t) (k : Go d y t L S h Q) : Go d y pc L (aI x :: S) h Q := Go.st hd rfl rfl rfl (by simp only [stp, s_tab]; rw [if_pos hx, ht] <;> rfl) k
theorem g_tabIn {dflt lo hi off : Int} {offs : Array Int} {len t : Nat} {x : Int} (hd : tb y pc = some (.tableswitch dflt lo hi offs, len)) (hx : ¬ (x < lo ∨ hi < x)) (ho : offs[(x - lo).toNat]? = some off) (ht : a_nxt pc off = some t) (k : Go d y t L S h Q) : Go d y pc L (aI x :: S) h Q := Go.st hd rfl rfl rfl (by simp only [stp, s_tab]; rw [if_neg hx]; simp only [ho, ht] <;> rfl) k
theorem g_get {x a ci kk : Nat} {tg : Nat × Bool} {fs : List AV} {v : Int ⊕ (Int ⊕ Option Nat)} (hd : tb y pc = some (.getfield x, 3)) (hf : tF y.2.1 x = some (ci, kk, tg)) (hc : h.1 a = some (eO ci fs)) (hb : h.2.2.2.1 ≤ a) (hv : fs[kk]? = some (some v)) (k : Go d y (pc + 3) L (some v :: S) h Q) : Go d y pc L (aR a :: S) h Q := Go.st hd rfl rfl rfl (by simp only [stp, s_get, hf, hc]; rw [if_pos ⟨by trivial, hb⟩]; simp only [hv]) k
theorem g_put {x a ci kk tag : Nat} {fn : Bool} {fs fs' : List AV} {v : AV} (hd : tb y pc = some (.putfield x, 3)) (hf : tF y.2.1 x = some (ci, kk, tag, fn)) (hc : h.1 a = some (eO ci fs)) (hb : h.2.2.2.1 ≤ a) (hl : kk < fs.length) (ht : a_fit tag v = true) (hn : fn = true → y.2.2.2.2.2 = true ∧ y.2.1 = ci) (he : fs.set kk v = fs') (k : Go d y (pc + 3) L S (hput h a (eO ci fs')) Q) : Go d y pc L (v :: aR a :: S) h Q := by
  subst he
  exact Go.st hd rfl rfl rfl (by simp only [stp, s_put, hf, hc]; rw [if_pos ⟨by trivial, hb, hl, ht, hn⟩]) k
theorem g_gets {x : Nat} (hd : tb y pc = some (.getstatic x, 3)) (hs : tS y.2.1 x = true) (k : Go d y (pc + 3) L (aR h.2.2.2.2 :: S) h Q) : Go d y pc L S h Q := Go.st hd rfl rfl rfl (by simp only [stp]; exact if_pos hs) k
theorem g_new {x ci : Nat} (hd : tb y pc = some (.new x, 3)) (hx : tX y.1 pc = none) (hc : tC y.2.1 x = some ci) (k : Go d y (pc + 3) L (aR h.2.1 :: S) (hnew h (eO ci (tD ci)) (tD ci).length) Q) : Go d y pc L S h Q := Go.st hd (by simp only [fin, hx] <;> rfl) rfl rfl (by simp only [stp, s_new, hc]) k
theorem g_newa {t : Jvm.ClassFile.ArrayType} {kd : Nat} {n : Int} (hd : tb y pc = some (.newarray t, 2)) (ht : a_at t = some kd) (hn : 0 ≤ n ∧ n ≤ 1000000) (k : Go d y (pc + 2) L (aR h.2.1 :: S) (hnew h (eA kd n.toNat (fun _ => 0)) n.toNat) Q) : Go d y pc L (aI n :: S) h Q := Go.st hd rfl rfl rfl (by simp only [stp, s_newa, ht]; exact if_pos hn) k
theorem g_newq {x : Nat} {n : Int} (hd : tb y pc = some (.anewarray x, 3)) (hc : tC y.2.1 x = some 0) (hn : 0 ≤ n ∧ n ≤ 1000000) (k : Go d y (pc + 3) L (aR h.2.1 :: S) (hnew h (eQ 3 n.toNat (fun _ => none)) n.toNat) Q) : Go d y pc L (aI n :: S) h Q := Go.st hd rfl rfl rfl (by simp only [stp, s_newq, hc]; exact if_pos ⟨by trivial, hn⟩) k
theorem g_iald {a n : Nat} {i : Int} {f : Nat → Int} (hd : tb y pc = some (.iaload, 1)) (hc : h.1 a = some (eA 0 n f)) (hi : 0 ≤ i ∧ i < n) (k : Go d y (pc + 1) L (aI (f i.toNat) :: S) h Q) : Go d y pc L (aI i :: aR a :: S) h Q := Go.st hd rfl rfl rfl (by simp only [stp, s_ild, hc]; exact if_pos ⟨by trivial, hi⟩) k
theorem g_bald {a n : Nat} {i : Int} {f : Nat → Int} (hd : tb y pc = some (.baload, 1)) (hc : h.1 a = some (eA 1 n f)) (hi : 0 ≤ i ∧ i < n) (k : Go d y (pc + 1) L (aI (f i.toNat) :: S) h Q) : Go d y pc L (aI i :: aR a :: S) h Q := Go.st hd rfl rfl rfl (by simp only [stp, s_ild, hc]; exact if_pos ⟨by trivial, hi⟩) k
theorem g_lald {a n : Nat} {i : Int} {f : Nat → Int} (hd : tb y pc = some (.laload, 1)) (hc : h.1 a = some (eA 2 n f)) (hi : 0 ≤ i ∧ i < n) (k : Go d y (pc + 1) L (aL (f i.toNat) :: S) h Q) : Go d y pc L (aI i :: aR a :: S) h Q := Go.st hd rfl rfl rfl (by simp only [stp, s_ild, hc]; exact if_pos ⟨by trivial, hi⟩) k
theorem g_aald {a n kd b : Nat} {i : Int} {f : Nat → Option Nat} (hd : tb y pc = some (.aaload, 1)) (hc : h.1 a = some (eQ kd n f)) (hk : 3 ≤ kd) (hb : h.2.2.2.1 ≤ a) (hi : 0 ≤ i ∧ i < n) (hv : f i.toNat = some b) (k : Go d y (pc + 1) L (aR b :: S) h Q) : Go d y pc L (aI i :: aR a :: S) h Q := Go.st hd rfl rfl rfl (by simp only [stp, s_qld, hc]; rw [if_pos ⟨hk, hb, hi⟩]; simp only [hv]) k
theorem g_iast {a n : Nat} {i x : Int} {f : Nat → Int} (hd : tb y pc = some (.iastore, 1)) (hc : h.1 a = some (eA 0 n f)) (hb : h.2.2.2.1 ≤ a) (hi : 0 ≤ i ∧ i < n) (k : Go d y (pc + 1) L S (hput h a (eA 0 n (va_up f i.toNat x))) Q) : Go d y pc L (aI x :: aI i :: aR a :: S) h Q := Go.st hd rfl rfl rfl (by simp only [stp, s_ist, hc]; exact if_pos ⟨by trivial, hb, hi⟩) k
theorem g_bast {a n : Nat} {i x : Int} {f : Nat → Int} (hd : tb y pc = some (.bastore, 1)) (hc : h.1 a = some (eA 1 n f)) (hb : h.2.2.2.1 ≤ a) (hi : 0 ≤ i ∧ i < n) (k : Go d y (pc + 1) L S (hput h a (eA 1 n (va_up f i.toNat (a8 x)))) Q) : Go d y pc L (aI x :: aI i :: aR a :: S) h Q := Go.st hd rfl rfl rfl (by simp only [stp, s_ist, hc]; exact if_pos ⟨by trivial, hb, hi⟩) k
theorem g_last {a n : Nat} {i x : Int} {f : Nat → Int} (hd : tb y pc = some (.lastore, 1)) (hc : h.1 a = some (eA 2 n f)) (hb : h.2.2.2.1 ≤ a) (hi : 0 ≤ i ∧ i < n) (k : Go d y (pc + 1) L S (hput h a (eA 2 n (va_up f i.toNat x))) Q) : Go d y pc L (aL x :: aI i :: aR a :: S) h Q := Go.st hd rfl rfl rfl (by simp only [stp, s_lst, hc]; exact if_pos ⟨by trivial, hb, hi⟩) k
theorem g_aast {a n b ci kd : Nat} {i : Int} {f : Nat → Option Nat} {fs : List AV} (hd : tb y pc = some (.aastore, 1)) (hc : h.1 a = some (eQ kd n f)) (hx : h.1 b = some (eO ci fs)) (hk : kd = 3 + ci) (hb : h.2.2.2.1 ≤ a) (hb2 : h.2.2.2.1 ≤ b) (hi : 0 ≤ i ∧ i < n) (k : Go d y (pc + 1) L S (hput h a (eQ kd n (va_up f i.toNat (some b)))) Q) : Go d y pc L (aR b :: aI i :: aR a :: S) h Q := Go.st hd rfl rfl rfl (by simp only [stp, s_qst, hc, hx]; exact if_pos ⟨hk, hb, hb2, hi⟩) k
theorem g_alen {a kd n : Nat} {f : (Nat → Int) ⊕ (Nat → Option Nat)} (hd : tb y pc = some (.arraylength, 1)) (hc : h.1 a = some (.inr (kd, n, f))) (hn : n < 2147483648) (k : Go d y (pc + 1) L (aI n :: S) h Q) : Go d y pc L (aR a :: S) h Q := Go.st hd rfl rfl rfl (by simp only [stp, s_len, hc]; exact if_pos hn) k
theorem g_ireturn {x : Int} (hd : tb y pc = some (.ireturn, 1)) (hr : y.2.2.2.2.1 = some .int) (q : Q (.inl (some (aI x))) h) : Go d y pc L [aI x] h Q := Go.end (r := (.inl (some (aI x)), h)) hd (by simp only [fin]; exact if_pos (Or.inl hr)) q
theorem g_zreturn {x : Int} (hd : tb y pc = some (.ireturn, 1)) (hr : y.2.2.2.2.1 = some .boolean) (hx : x = 0 ∨ x = 1) (q : Q (.inl (some (aI x))) h) : Go d y pc L [aI x] h Q := Go.end (r := (.inl (some (aI x)), h)) hd (by simp only [fin]; exact if_pos (Or.inr ⟨hr, hx⟩)) q
theorem g_lreturn {x : Int} (hd : tb y pc = some (.lreturn, 1)) (hr : y.2.2.2.2.1 = some .long) (q : Q (.inl (some (aL x))) h) : Go d y pc L [aL x] h Q := Go.end (r := (.inl (some (aL x)), h)) hd (by simp only [fin]; exact if_pos hr) q
theorem g_areturn {x : Nat} (hd : tb y pc = some (.areturn, 1)) (hr : tQ y.2.2.2.2.1 = true) (q : Q (.inl (some (aR x))) h) : Go d y pc L [aR x] h Q := Go.end (r := (.inl (some (aR x)), h)) hd (by simp only [fin]; exact if_pos hr) q
theorem g_return (hd : tb y pc = some (.return_, 1)) (hr : y.2.2.2.2.1 = none) (q : Q (.inl none) h) : Go d y pc L [] h Q := Go.end (r := (.inl none, h)) hd (by simp only [fin]; exact if_pos hr) q
theorem g_throw {x kd : Nat} (hd : tb y pc = some (.new x, 3)) (hx : tX y.1 pc = some kd) (h6 : 5 ≤ d) (hw : a_wt S ≤ 7) (q : Q (.inr (kd, h.2.1)) (hthr h)) : Go d y pc L S h Q := Go.end (r := (.inr (kd, h.2.1), hthr h)) hd (by simp only [fin, hx]; rw [if_pos ⟨h6, hw⟩] <;> rfl) q
theorem g_callV {x n a : Nat} {e : Nat} {z : AY} {A rest fs : List AV} (hd : tb y pc = some (.invokevirtual x, 3)) (hm : tM y.2.1 x = some (0, n, z)) (h1 : S.take n = A) (h2 : S.drop n = aR a :: rest) (hc : h.1 a = some (eO z.2.1 fs)) (hb : h.2.2.2.1 ≤ a) (hA : A.length = n ∧ a_wt rest ≤ 8 ∧ (a_spr (aR a :: A.reverse)).length ≤ z.2.2.2.1 ∧ A.all Option.isSome = true) (hl : lv z = e) (he : e ≤ d) (k : Cal (d - e) z (aR a :: A.reverse) h (aftQ d y pc L rest Q)) : Go d y pc L S h Q := by
  subst h1
  exact Go.call hd rfl (by simp only [cal, hm, h2, hc]; rw [if_pos ⟨by trivial, hb, hA⟩]) hl he k
theorem g_callI {x n a : Nat} {e : Nat} {z : AY} {A rest : List AV} (hd : tb y pc = some (.invokespecial x, 3)) (hm : tM y.2.1 x = some (1, n, z)) (h1 : S.take n = A) (h2 : S.drop n = aR a :: rest) (hA : A.length = n ∧ a_wt rest ≤ 8 ∧ (a_spr (aR a :: A.reverse)).length ≤ z.2.2.2.1 ∧ A.all Option.isSome = true) (hl : lv z = e) (he : e ≤ d) (k : Cal (d - e) z (aR a :: A.reverse) h (aftQ d y pc L rest Q)) : Go d y pc L S h Q := by
  subst h1
  exact Go.call hd rfl (by simp only [cal, hm, h2]; rw [if_pos hA]) hl he k
theorem g_callS {x n : Nat} {e : Nat} {z : AY} {A rest : List AV} (hd : tb y pc = some (.invokestatic x, 3)) (hm : tM y.2.1 x = some (2, n, z)) (h1 : S.take n = A) (h2 : S.drop n = rest) (hA : A.length = n ∧ a_wt rest ≤ 8 ∧ (a_spr A.reverse).length ≤ z.2.2.2.1 ∧ A.all Option.isSome = true) (hl : lv z = e) (he : e ≤ d) (k : Cal (d - e) z A.reverse h (aftQ d y pc L rest Q)) : Go d y pc L S h Q := by
  subst h1; subst h2
  exact Go.call hd rfl (by simp only [cal, hm]; rw [if_pos hA]) hl he k
theorem g_obj {x a : Nat} (hd : tb y pc = some (.invokespecial x, 3)) (hm : tM y.2.1 x = none) (hb : tB y.2.1 x = some 0) (hw : a_wt S ≤ 8) (k : Go d y (pc + 3) L S h Q) : Go d y pc L (aR a :: S) h Q := Go.bl hd rfl (by simp only [cal, hm]) (by simp only [blt, hb]; exact if_pos hw) k
theorem g_max {x : Nat} {u v : Int} (hd : tb y pc = some (.invokestatic x, 3)) (hm : tM y.2.1 x = none) (hb : tB y.2.1 x = some 1) (hw : a_wt S ≤ 8) (k : Go d y (pc + 3) L (aI (if u ≤ v then v else u) :: S) h Q) : Go d y pc L (aI v :: aI u :: S) h Q := Go.bl hd rfl (by simp only [cal, hm]) (by simp only [blt, hb]; exact if_pos hw) k
theorem g_min {x : Nat} {u v : Int} (hd : tb y pc = some (.invokestatic x, 3)) (hm : tM y.2.1 x = none) (hb : tB y.2.1 x = some 2) (hw : a_wt S ≤ 8) (k : Go d y (pc + 3) L (aI (if u ≤ v then u else v) :: S) h Q) : Go d y pc L (aI v :: aI u :: S) h Q := Go.bl hd rfl (by simp only [cal, hm]) (by simp only [blt, hb]; exact if_pos hw) k
theorem g_copy {x a b n0 n1 : Nat} {sp dp n : Int} {f g : Nat → Int} (hd : tb y pc = some (.invokestatic x, 3)) (hm : tM y.2.1 x = none) (hb : tB y.2.1 x = some 3) (ha : h.1 a = some (eA 1 n0 f)) (hb1 : h.1 b = some (eA 1 n1 g)) (hg : a_wt S ≤ 8 ∧ h.2.2.2.1 ≤ a ∧ h.2.2.2.1 ≤ b ∧ a ≠ b ∧ 0 ≤ sp ∧ 0 ≤ dp ∧ 0 ≤ n ∧ sp + n ≤ n0 ∧ dp + n ≤ n1) (k : Go d y (pc + 3) L S (hput h b (eA 1 n1 (va_cpy f g sp.toNat dp.toNat n.toNat))) Q) : Go d y pc L (aI n :: aI dp :: aR b :: aI sp :: aR a :: S) h Q := Go.bl hd rfl (by simp only [cal, hm]) (by simp only [blt, hb, ha, hb1]; rw [if_pos hg]) k
end GoRules
