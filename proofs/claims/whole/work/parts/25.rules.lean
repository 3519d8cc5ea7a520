/-! Rules of AM for calls by contracts; ends. -/
def ckA (A : List AV) (n a : Nat) (rest : List AV) (z : AY) : Bool := A.length == n && Nat.ble (a_wt rest) 8 && Nat.ble (a_spr (aR a :: A.reverse)).length z.2.2.2.1 && A.all Option.isSome
def ckS (A : List AV) (n : Nat) (rest : List AV) (z : AY) : Bool := A.length == n && Nat.ble (a_wt rest) 8 && Nat.ble (a_spr A.reverse).length z.2.2.2.1 && A.all Option.isSome
theorem ckA_ok {A rest : List AV} {n a : Nat} {z : AY} (h : ckA A n a rest z = true) : A.length = n ∧ a_wt rest ≤ 8 ∧ (a_spr (aR a :: A.reverse)).length ≤ z.2.2.2.1 ∧ A.all Option.isSome = true := by
  unfold ckA at h
  simp only [Bool.and_eq_true, beq_iff_eq, Nat.ble_eq] at h
  exact ⟨h.1.1.1, h.1.1.2, h.1.2, h.2⟩
theorem ckS_ok {A rest : List AV} {n : Nat} {z : AY} (h : ckS A n rest z = true) : A.length = n ∧ a_wt rest ≤ 8 ∧ (a_spr A.reverse).length ≤ z.2.2.2.1 ∧ A.all Option.isSome = true := by
  unfold ckS at h
  simp only [Bool.and_eq_true, beq_iff_eq, Nat.ble_eq] at h
  exact ⟨h.1.1.1, h.1.1.2, h.1.2, h.2⟩
/-- returns v; P holds of the heap then -/
abbrev RV (v : Option AV) (P : AH → Prop) : AO → AH → Prop := fun o h2 => o = .inl v ∧ P h2
/-- throws; P holds of the heap then -/
abbrev RT (k x : Nat) (P : AH → Prop) : AO → AH → Prop := fun o h2 => o = .inr (k, x) ∧ P h2
section GoCalls
variable {d : Nat} {y : AY} {pc : Nat} {L S : List AV} {h : AH} {Q : AO → AH → Prop} {P : AH → Prop}
theorem g_V {x n a e : Nat} {z : AY} {A rest fs : List AV} {v : AV} (hd : tb y pc = some (.invokevirtual x, 3)) (hm : tM y.2.1 x = some (0, n, z)) (h1 : S.take n = A) (h2 : S.drop n = aR a :: rest) (hk : ckA A n a rest z = true) (hl : lv z = e) (he : e ≤ d) (hc : h.1 a = some (eO z.2.1 fs)) (hb : h.2.2.2.1 ≤ a) (k : Cal (d - e) z (aR a :: A.reverse) h (RV (some v) P)) (kk : ∀ h2, P h2 → Go d y (pc + 3) L (v :: rest) h2 Q) : Go d y pc L S h Q :=
  g_callV hd hm h1 h2 hc hb (ckA_ok hk) hl he (k.mono fun o h' hh => by
    obtain ⟨ho, hp⟩ := hh
    subst ho
    exact kk h' hp)
theorem g_Vn {x n a e : Nat} {z : AY} {A rest fs : List AV} (hd : tb y pc = some (.invokevirtual x, 3)) (hm : tM y.2.1 x = some (0, n, z)) (h1 : S.take n = A) (h2 : S.drop n = aR a :: rest) (hk : ckA A n a rest z = true) (hl : lv z = e) (he : e ≤ d) (hc : h.1 a = some (eO z.2.1 fs)) (hb : h.2.2.2.1 ≤ a) (k : Cal (d - e) z (aR a :: A.reverse) h (RV none P)) (kk : ∀ h2, P h2 → Go d y (pc + 3) L rest h2 Q) : Go d y pc L S h Q :=
  g_callV hd hm h1 h2 hc hb (ckA_ok hk) hl he (k.mono fun o h' hh => by
    obtain ⟨ho, hp⟩ := hh
    subst ho
    exact kk h' hp)
theorem g_Vt {x n a e kd ex : Nat} {z : AY} {A rest fs : List AV} (hd : tb y pc = some (.invokevirtual x, 3)) (hm : tM y.2.1 x = some (0, n, z)) (h1 : S.take n = A) (h2 : S.drop n = aR a :: rest) (hk : ckA A n a rest z = true) (hl : lv z = e) (he : e ≤ d) (hc : h.1 a = some (eO z.2.1 fs)) (hb : h.2.2.2.1 ≤ a) (hH : tH y.1 kd = none) (k : Cal (d - e) z (aR a :: A.reverse) h (RT kd ex P)) (kk : ∀ h2, P h2 → Q (.inr (kd, ex)) h2) : Go d y pc L S h Q :=
  g_callV hd hm h1 h2 hc hb (ckA_ok hk) hl he (k.mono fun o h' hh => by
    obtain ⟨ho, hp⟩ := hh
    subst ho
    simp only [aftQ, hH]
    exact kk h' hp)
theorem g_Vc {x n a e kd ex t : Nat} {z : AY} {A rest fs : List AV} (hd : tb y pc = some (.invokevirtual x, 3)) (hm : tM y.2.1 x = some (0, n, z)) (h1 : S.take n = A) (h2 : S.drop n = aR a :: rest) (hk : ckA A n a rest z = true) (hl : lv z = e) (he : e ≤ d) (hc : h.1 a = some (eO z.2.1 fs)) (hb : h.2.2.2.1 ≤ a) (hH : tH y.1 kd = some t) (k : Cal (d - e) z (aR a :: A.reverse) h (RT kd ex P)) (kk : ∀ h2, P h2 → Go d y t L [aR ex] h2 Q) : Go d y pc L S h Q :=
  g_callV hd hm h1 h2 hc hb (ckA_ok hk) hl he (k.mono fun o h' hh => by
    obtain ⟨ho, hp⟩ := hh
    subst ho
    simp only [aftQ, hH]
    exact kk h' hp)
theorem g_I {x n a e : Nat} {z : AY} {A rest : List AV} (hd : tb y pc = some (.invokespecial x, 3)) (hm : tM y.2.1 x = some (1, n, z)) (h1 : S.take n = A) (h2 : S.drop n = aR a :: rest) (hk : ckA A n a rest z = true) (hl : lv z = e) (he : e ≤ d) (k : Cal (d - e) z (aR a :: A.reverse) h (RV none P)) (kk : ∀ h2, P h2 → Go d y (pc + 3) L rest h2 Q) : Go d y pc L S h Q :=
  g_callI hd hm h1 h2 (ckA_ok hk) hl he (k.mono fun o h' hh => by
    obtain ⟨ho, hp⟩ := hh
    subst ho
    exact kk h' hp)
theorem g_S {x n e : Nat} {z : AY} {A rest : List AV} {v : AV} (hd : tb y pc = some (.invokestatic x, 3)) (hm : tM y.2.1 x = some (2, n, z)) (h1 : S.take n = A) (h2 : S.drop n = rest) (hk : ckS A n rest z = true) (hl : lv z = e) (he : e ≤ d) (k : Cal (d - e) z A.reverse h (RV (some v) P)) (kk : ∀ h2, P h2 → Go d y (pc + 3) L (v :: rest) h2 Q) : Go d y pc L S h Q :=
  g_callS hd hm h1 h2 (ckS_ok hk) hl he (k.mono fun o h' hh => by
    obtain ⟨ho, hp⟩ := hh
    subst ho
    exact kk h' hp)
theorem r_i {x v : Int} (hd : tb y pc = some (.ireturn, 1)) (hr : y.2.2.2.2.1 = some .int) (hv : x = v) (hp : P h) : Go d y pc L [aI x] h (RV (some (aI v)) P) := by
  subst hv
  exact g_ireturn hd hr ⟨rfl, hp⟩
theorem r_z {x v : Int} (hd : tb y pc = some (.ireturn, 1)) (hr : y.2.2.2.2.1 = some .boolean) (hx : x = 0 ∨ x = 1) (hv : x = v) (hp : P h) : Go d y pc L [aI x] h (RV (some (aI v)) P) := by
  subst hv
  exact g_zreturn hd hr hx ⟨rfl, hp⟩
theorem r_l {x v : Int} (hd : tb y pc = some (.lreturn, 1)) (hr : y.2.2.2.2.1 = some .long) (hv : x = v) (hp : P h) : Go d y pc L [aL x] h (RV (some (aL v)) P) := by
  subst hv
  exact g_lreturn hd hr ⟨rfl, hp⟩
theorem r_a {x : Nat} (hd : tb y pc = some (.areturn, 1)) (hr : tQ y.2.2.2.2.1 = true) (hp : P h) : Go d y pc L [aR x] h (RV (some (aR x)) P) := g_areturn hd hr ⟨rfl, hp⟩
theorem r_v (hd : tb y pc = some (.return_, 1)) (hr : y.2.2.2.2.1 = none) (hp : P h) : Go d y pc L [] h (RV none P) := g_return hd hr ⟨rfl, hp⟩
theorem r_t {x kd : Nat} (hd : tb y pc = some (.new x, 3)) (hx : tX y.1 pc = some kd) (h6 : 5 ≤ d) (hw : Nat.ble (a_wt S) 7 = true) (hp : P (hthr h)) : Go d y pc L S h (RT kd h.2.1 P) := g_throw hd hx h6 (Nat.le_of_ble_eq_true hw) ⟨rfl, hp⟩
end GoCalls
/-- a truth as a number -/
def bz (b : Bool) : Int := if b then 1 else 0
theorem bz01 (b : Bool) : bz b = 0 ∨ bz b = 1 := by cases b <;> simp [bz]
theorem bz_f {b : Bool} (h : bz b = 0) : b = false := by cases b <;> simp_all [bz]
theorem bz_t {b : Bool} (h : bz b ≠ 0) : b = true := by cases b <;> simp_all [bz]
theorem hput_eq {h : AH} {a : Nat} {e : AE} : (hput h a e).1 a = some e := by simp [hput, hup]
theorem hput_ne {h : AH} {a b : Nat} {e : AE} (hb : b ≠ a) : (hput h a e).1 b = h.1 b := by simp [hput, hup, hb]
theorem hnew_eq {h : AH} {n : Nat} {e : AE} : (hnew h e n).1 h.2.1 = some e := by simp [hnew, hup]
theorem hnew_ne {h : AH} {b n : Nat} {e : AE} (hb : b ≠ h.2.1) : (hnew h e n).1 b = h.1 b := by simp [hnew, hup, hb]
