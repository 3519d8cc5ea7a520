/-! AM only grows; what a step leaves alone. -/
def mor (h h' : AH) : Prop := h.2.1 ≤ h'.2.1 ∧ h.2.2.1 ≤ h'.2.2.1 ∧ h'.2.2.2 = h.2.2.2
theorem mor.rf {h : AH} : mor h h := ⟨Nat.le_refl _, Nat.le_refl _, rfl⟩
theorem mor.trans {h h' h'' : AH} (a : mor h h') (b : mor h' h'') : mor h h'' := ⟨Nat.le_trans a.1 b.1, Nat.le_trans a.2.1 b.2.1, b.2.2.trans a.2.2⟩
theorem mor_put {h : AH} {a : Nat} {e : AE} : mor h (hput h a e) := ⟨Nat.le_refl _, Nat.le_refl _, rfl⟩
theorem mor_new {h : AH} {e : AE} {n : Nat} : mor h (hnew h e n) := ⟨Nat.le_succ _, Nat.le_add_right _ _, rfl⟩
theorem mor_thr {h : AH} : mor h (hthr h) := ⟨Nat.le_succ _, Nat.le_add_right _ _, rfl⟩
theorem kill_len {L : List AV} {i : Nat} : (a_kill L i).length = L.length := by
  unfold a_kill
  split
  · rfl
  · split
    · simp
    · rfl
theorem st1_len {L L' : List AV} {i : Nat} {v : AV} (h : a_st1 L i v = some L') : L'.length = L.length := by
  unfold a_st1 at h
  split at h
  · cases h
    simp [kill_len]
  · cases h
theorem st2_len {L L' : List AV} {i : Nat} {v : AV} (h : a_st2 L i v = some L') : L'.length = L.length := by
  unfold a_st2 at h
  split at h
  · cases h
    simp [kill_len]
  · cases h
set_option maxHeartbeats 4000000 in
theorem stp_mor {y : AY} {i : Jvm.ClassFile.Instr} {len pc pc' : Nat} {L S L' S' : List AV} {h h' : AH} (hs : stp y i len pc L S h = some (pc', L', S', h')) : mor h h' ∧ L'.length = L.length := by
  unfold stp at hs
  split at hs
  all_goals (try simp only [s_ldi, s_ldl, s_lda, s_sti, s_stl, s_sta, s_inc, s_ii, s_ll, s_li, s_idv, s_ldv, s_lcmp, s_i2i, s_i2l, s_l2i, s_dup, s_pop, s_dup2, s_if, s_icmp, s_goto, s_tab, s_get, s_put, s_new, s_newa, s_newq, s_ild, s_qld, s_ist, s_lst, s_qst, s_len] at hs)
  all_goals (repeat' split at hs)
  all_goals first
    | (cases hs; done)
    | (cases hs; exact ⟨mor.rf, rfl⟩)
    | (cases hs; exact ⟨mor_put, rfl⟩)
    | (cases hs; exact ⟨mor_new, rfl⟩)
    | (obtain ⟨L2, e1, e2⟩ := Option.map_eq_some_iff.mp hs; cases e2; exact ⟨mor.rf, st1_len e1⟩)
    | (obtain ⟨L2, e1, e2⟩ := Option.map_eq_some_iff.mp hs; cases e2; exact ⟨mor.rf, st2_len e1⟩)
    | (obtain ⟨L2, e1, e2⟩ := Option.map_eq_some_iff.mp hs; cases e2; exact ⟨mor.rf, rfl⟩)
theorem fin_mor {d : Nat} {y : AY} {i : Jvm.ClassFile.Instr} {len pc : Nat} {S : List AV} {h : AH} {r : AO × AH} (hs : fin d y i len pc S h = some r) : mor h r.2 := by
  unfold fin at hs
  repeat' split at hs
  all_goals first
    | (cases hs; done)
    | (cases hs; exact mor.rf)
    | (cases hs; exact mor_thr)
theorem blt_mor {y : AY} {i : Jvm.ClassFile.Instr} {len : Nat} {S S' : List AV} {h h' : AH} (hs : blt y i len S h = some (S', h')) : mor h h' := by
  unfold blt at hs
  repeat' split at hs
  all_goals first
    | (cases hs; done)
    | (cases hs; exact mor.rf)
    | (cases hs; exact mor_put)
theorem go_mor : ∀ (n d : Nat) (y : AY) (pc : Nat) (L S : List AV) (h : AH) (r : AO × AH), go n d y pc L S h = some r → mor h r.2 := by
  intro n
  induction n with
  | zero => intro d y pc L S h r e; cases e
  | succ n ih =>
    intro d y pc L S h r e
    have e : gob (go n) d y pc L S h = some r := e
    unfold gob at e
    cases hd : tb y pc with
    | none => simp only [hd] at e; cases e
    | some il =>
      obtain ⟨i, len⟩ := il
      simp only [hd] at e
      cases hf : fin d y i len pc S h with
      | some q => simp only [hf] at e; cases e; exact fin_mor hf
      | none =>
        simp only [hf] at e
        cases hc : cal y i len S h with
        | some q =>
          obtain ⟨z, As, rest⟩ := q
          simp only [hc] at e
          split at e
          · cases hg : go n (d - lv z) z 0 (ent z As) [] h with
            | none => rw [hg] at e; cases e
            | some q =>
              rw [hg] at e
              have h1 := ih _ _ _ _ _ _ _ hg
              obtain ⟨o, h2⟩ := q
              refine h1.trans ?_
              rcases o with (_ | v) | ⟨k, x⟩
              · exact ih _ _ _ _ _ _ _ e
              · exact ih _ _ _ _ _ _ _ e
              · simp only [aft] at e
                cases ht : tH y.1 k with
                | some t => simp only [ht] at e; exact ih _ _ _ _ _ _ _ e
                | none => simp only [ht] at e; cases e; exact mor.rf
          · cases e
        | none =>
          simp only [hc] at e
          cases hb : blt y i len S h with
          | some q =>
            obtain ⟨S', h'⟩ := q
            simp only [hb] at e
            exact (blt_mor hb).trans (ih _ _ _ _ _ _ _ e)
          | none =>
            simp only [hb] at e
            cases hs : stp y i len pc L S h with
            | none => simp only [hs] at e; cases e
            | some q =>
              obtain ⟨pc', L', S', h'⟩ := q
              simp only [hs] at e
              exact (stp_mor hs).1.trans (ih _ _ _ _ _ _ _ e)
