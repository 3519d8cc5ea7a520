/-! The law holds; the claim. -/
theorem law_ok : LawOK := fun b mk N L xs hb hm hne hL hx => law_go (h0 := h00 b mk N L xs) hb hm hne hL hx rfl (by
  show (if b = mk then _ else _) = _
  rw [if_neg hne]
  exact if_pos rfl) (by
  show (if mk = mk then _ else _) = _
  exact if_pos rfl)
theorem i_vc : Claimed_1_1 ∧ Claimed_1_2 := claim_of law_ok
