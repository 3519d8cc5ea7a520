/-! The reference: clear, walk. -/
section Md26
variable {B h : AH} {m0 d t u : Nat} {s s' : MS} {c : Int} {st : CS} {P : List Int}
def CL (s s' : MS) (u : Nat) : Prop := FR s s' (30 * u) ∧ s'.1 9 = va_up (s.1 9) u 1 ∧ (∀ k, 10 ≤ k → s'.1 k = s.1 k) ∧ s'.2 = s.2 ∧ s'.1 1 (30 * u) = 0 ∧ s'.1 2 (30 * u) = -1 ∧ s'.1 3 (30 * u) = 0 ∧ s'.1 4 (30 * u) = 0 ∧ s'.1 5 (30 * u) = 0 ∧ s'.1 6 (30 * u) = 0 ∧ s'.1 7 (30 * u) = 0 ∧ s'.1 8 (30 * u) = -1
theorem m_clear (hu : u < 2) (hW : WM B m0 h s) : Cal d yMd_clear [aR m0, aI (30 * (u : Int))] h (RV none (fun h2 => ∃ s', WM B m0 h2 s' ∧ CL s s' u)) := by
  have e30 : (30 * (u : Int)).toNat = 30 * u := by omega
  show Go _ _ 0 [aR m0, aI (30 * (u : Int))] [] _ _
  refine g_aload_n rfl rfl ?_
  refine g_get (ci := 8) (kk := 8) rfl rfl hW.ob hW.b0 rfl ?_
  refine g_iload_n rfl rfl ?_
  refine g_bipush (n := 30) rfl (by decide) ?_
  refine g_idiv (v := (u : Int)) rfl (by decide) ((a_div30 (by omega) (by omega)).trans (by omega)) ?_
  refine g_iconst (n := 1) rfl (by decide) ?_
  refine g_iast rfl hW.a9 hW.bk (by omega) ?_
  generalize hg_hh1 : hput h (m0 + 9) (eA 0 2 (va_up (s.1 9) ((u : Int)).toNat 1)) = hh1
  obtain ⟨s9, hW, q9, o9, p9⟩ := hW.st (k := 9) (i := ((u : Nat) : Int).toNat) (v := 1) (by omega) (by omega) (fun z => absurd z (by decide))
  rw [show (eA (mty 9) (mln 9) (va_up (s.1 9) ((u : Nat) : Int).toNat 1) : AE) = eA 0 2 (va_up (s.1 9) ((u : Nat) : Int).toNat 1) from rfl, hg_hh1] at hW
  refine g_aload_n rfl rfl ?_
  refine g_get (ci := 8) (kk := 0) rfl rfl hW.ob hW.b0 rfl ?_
  refine g_iload_n rfl rfl ?_
  refine g_iconst (n := 0) rfl (by decide) ?_
  refine g_iast rfl hW.a1 hW.bk (by omega) ?_
  generalize hg_hh2 : hput hh1 (m0 + 1) (eA 0 60 (va_up (s9.1 1) (30 * (u : Int)).toNat 0)) = hh2
  obtain ⟨s1, hW, q1, o1, p1⟩ := hW.st (k := 1) (i := (30 * (u : Int)).toNat) (v := 0) (by omega) (by omega) (fun z => absurd z (by decide))
  rw [show (eA (mty 1) (mln 1) (va_up (s9.1 1) (30 * (u : Int)).toNat 0) : AE) = eA 0 60 (va_up (s9.1 1) (30 * (u : Int)).toNat 0) from rfl, hg_hh2] at hW
  refine g_aload_n rfl rfl ?_
  refine g_get (ci := 8) (kk := 1) rfl rfl hW.ob hW.b0 rfl ?_
  refine g_iload_n rfl rfl ?_
  refine g_iconst (n := -1) rfl (by decide) ?_
  refine g_iast rfl hW.a2 hW.bk (by omega) ?_
  generalize hg_hh3 : hput hh2 (m0 + 2) (eA 0 60 (va_up (s1.1 2) (30 * (u : Int)).toNat (-1))) = hh3
  obtain ⟨s2, hW, q2, o2, p2⟩ := hW.st (k := 2) (i := (30 * (u : Int)).toNat) (v := (-1)) (by omega) (by omega) (fun z => absurd z (by decide))
  rw [show (eA (mty 2) (mln 2) (va_up (s1.1 2) (30 * (u : Int)).toNat (-1)) : AE) = eA 0 60 (va_up (s1.1 2) (30 * (u : Int)).toNat (-1)) from rfl, hg_hh3] at hW
  refine g_aload_n rfl rfl ?_
  refine g_get (ci := 8) (kk := 2) rfl rfl hW.ob hW.b0 rfl ?_
  refine g_iload_n rfl rfl ?_
  refine g_iconst (n := 0) rfl (by decide) ?_
  refine g_iast rfl hW.a3 hW.bk (by omega) ?_
  generalize hg_hh4 : hput hh3 (m0 + 3) (eA 0 60 (va_up (s2.1 3) (30 * (u : Int)).toNat 0)) = hh4
  obtain ⟨s3, hW, q3, o3, p3⟩ := hW.st (k := 3) (i := (30 * (u : Int)).toNat) (v := 0) (by omega) (by omega) (fun z => absurd z (by decide))
  rw [show (eA (mty 3) (mln 3) (va_up (s2.1 3) (30 * (u : Int)).toNat 0) : AE) = eA 0 60 (va_up (s2.1 3) (30 * (u : Int)).toNat 0) from rfl, hg_hh4] at hW
  refine g_aload_n rfl rfl ?_
  refine g_get (ci := 8) (kk := 3) rfl rfl hW.ob hW.b0 rfl ?_
  refine g_iload_n rfl rfl ?_
  refine g_iconst (n := 0) rfl (by decide) ?_
  refine g_iast rfl hW.a4 hW.bk (by omega) ?_
  generalize hg_hh5 : hput hh4 (m0 + 4) (eA 0 60 (va_up (s3.1 4) (30 * (u : Int)).toNat 0)) = hh5
  obtain ⟨s4, hW, q4, o4, p4⟩ := hW.st (k := 4) (i := (30 * (u : Int)).toNat) (v := 0) (by omega) (by omega) (fun z => absurd z (by decide))
  rw [show (eA (mty 4) (mln 4) (va_up (s3.1 4) (30 * (u : Int)).toNat 0) : AE) = eA 0 60 (va_up (s3.1 4) (30 * (u : Int)).toNat 0) from rfl, hg_hh5] at hW
  refine g_aload_n rfl rfl ?_
  refine g_get (ci := 8) (kk := 4) rfl rfl hW.ob hW.b0 rfl ?_
  refine g_iload_n rfl rfl ?_
  refine g_iconst (n := 0) rfl (by decide) ?_
  refine g_iast rfl hW.a5 hW.bk (by omega) ?_
  generalize hg_hh6 : hput hh5 (m0 + 5) (eA 0 60 (va_up (s4.1 5) (30 * (u : Int)).toNat 0)) = hh6
  obtain ⟨s5, hW, q5, o5, p5⟩ := hW.st (k := 5) (i := (30 * (u : Int)).toNat) (v := 0) (by omega) (by omega) (fun z => absurd z (by decide))
  rw [show (eA (mty 5) (mln 5) (va_up (s4.1 5) (30 * (u : Int)).toNat 0) : AE) = eA 0 60 (va_up (s4.1 5) (30 * (u : Int)).toNat 0) from rfl, hg_hh6] at hW
  refine g_aload_n rfl rfl ?_
  refine g_get (ci := 8) (kk := 5) rfl rfl hW.ob hW.b0 rfl ?_
  refine g_iload_n rfl rfl ?_
  refine g_iconst (n := 0) rfl (by decide) ?_
  refine g_iast rfl hW.a6 hW.bk (by omega) ?_
  generalize hg_hh7 : hput hh6 (m0 + 6) (eA 0 60 (va_up (s5.1 6) (30 * (u : Int)).toNat 0)) = hh7
  obtain ⟨s6, hW, q6, o6, p6⟩ := hW.st (k := 6) (i := (30 * (u : Int)).toNat) (v := 0) (by omega) (by omega) (fun z => absurd z (by decide))
  rw [show (eA (mty 6) (mln 6) (va_up (s5.1 6) (30 * (u : Int)).toNat 0) : AE) = eA 0 60 (va_up (s5.1 6) (30 * (u : Int)).toNat 0) from rfl, hg_hh7] at hW
  refine g_aload_n rfl rfl ?_
  refine g_get (ci := 8) (kk := 6) rfl rfl hW.ob hW.b0 rfl ?_
  refine g_iload_n rfl rfl ?_
  refine g_iconst (n := 0) rfl (by decide) ?_
  refine g_iast rfl hW.a7 hW.bk (by omega) ?_
  generalize hg_hh8 : hput hh7 (m0 + 7) (eA 0 60 (va_up (s6.1 7) (30 * (u : Int)).toNat 0)) = hh8
  obtain ⟨s7, hW, q7, o7, p7⟩ := hW.st (k := 7) (i := (30 * (u : Int)).toNat) (v := 0) (by omega) (by omega) (fun z => absurd z (by decide))
  rw [show (eA (mty 7) (mln 7) (va_up (s6.1 7) (30 * (u : Int)).toNat 0) : AE) = eA 0 60 (va_up (s6.1 7) (30 * (u : Int)).toNat 0) from rfl, hg_hh8] at hW
  refine g_aload_n rfl rfl ?_
  refine g_get (ci := 8) (kk := 7) rfl rfl hW.ob hW.b0 rfl ?_
  refine g_iload_n rfl rfl ?_
  refine g_iconst (n := -1) rfl (by decide) ?_
  refine g_iast rfl hW.a8 hW.bk (by omega) ?_
  generalize hg_hh9 : hput hh8 (m0 + 8) (eA 0 60 (va_up (s7.1 8) (30 * (u : Int)).toNat (-1))) = hh9
  obtain ⟨s8, hW, q8, o8, p8⟩ := hW.st (k := 8) (i := (30 * (u : Int)).toNat) (v := (-1)) (by omega) (by omega) (fun z => absurd z (by decide))
  rw [show (eA (mty 8) (mln 8) (va_up (s7.1 8) (30 * (u : Int)).toNat (-1)) : AE) = eA 0 60 (va_up (s7.1 8) (30 * (u : Int)).toNat (-1)) from rfl, hg_hh9] at hW
  rw [Int.toNat_natCast] at q9
  rw [e30] at q1 q2 q3 q4 q5 q6 q7 q8
  have g1 : s8.1 1 = va_up (s.1 1) (30 * u) 0 := by rw [o8 1 (by decide), o7 1 (by decide), o6 1 (by decide), o5 1 (by decide), o4 1 (by decide), o3 1 (by decide), o2 1 (by decide), q1, o9 1 (by decide)]
  have g2 : s8.1 2 = va_up (s.1 2) (30 * u) (-1) := by rw [o8 2 (by decide), o7 2 (by decide), o6 2 (by decide), o5 2 (by decide), o4 2 (by decide), o3 2 (by decide), q2, o1 2 (by decide), o9 2 (by decide)]
  have g3 : s8.1 3 = va_up (s.1 3) (30 * u) 0 := by rw [o8 3 (by decide), o7 3 (by decide), o6 3 (by decide), o5 3 (by decide), o4 3 (by decide), q3, o2 3 (by decide), o1 3 (by decide), o9 3 (by decide)]
  have g4 : s8.1 4 = va_up (s.1 4) (30 * u) 0 := by rw [o8 4 (by decide), o7 4 (by decide), o6 4 (by decide), o5 4 (by decide), q4, o3 4 (by decide), o2 4 (by decide), o1 4 (by decide), o9 4 (by decide)]
  have g5 : s8.1 5 = va_up (s.1 5) (30 * u) 0 := by rw [o8 5 (by decide), o7 5 (by decide), o6 5 (by decide), q5, o4 5 (by decide), o3 5 (by decide), o2 5 (by decide), o1 5 (by decide), o9 5 (by decide)]
  have g6 : s8.1 6 = va_up (s.1 6) (30 * u) 0 := by rw [o8 6 (by decide), o7 6 (by decide), q6, o5 6 (by decide), o4 6 (by decide), o3 6 (by decide), o2 6 (by decide), o1 6 (by decide), o9 6 (by decide)]
  have g7 : s8.1 7 = va_up (s.1 7) (30 * u) 0 := by rw [o8 7 (by decide), q7, o6 7 (by decide), o5 7 (by decide), o4 7 (by decide), o3 7 (by decide), o2 7 (by decide), o1 7 (by decide), o9 7 (by decide)]
  have g8 : s8.1 8 = va_up (s.1 8) (30 * u) (-1) := by rw [q8, o7 8 (by decide), o6 8 (by decide), o5 8 (by decide), o4 8 (by decide), o3 8 (by decide), o2 8 (by decide), o1 8 (by decide), o9 8 (by decide)]
  have g9 : s8.1 9 = va_up (s.1 9) u 1 := by rw [o8 9 (by decide), o7 9 (by decide), o6 9 (by decide), o5 9 (by decide), o4 9 (by decide), o3 9 (by decide), o2 9 (by decide), o1 9 (by decide), q9]
  have go : ∀ k, 10 ≤ k → s8.1 k = s.1 k := fun k hk => by rw [o8 k (by omega), o7 k (by omega), o6 k (by omega), o5 k (by omega), o4 k (by omega), o3 k (by omega), o2 k (by omega), o1 k (by omega), o9 k (by omega)]
  have hFR : FR s s8 (30 * u) := by
    refine ⟨fun k k1 k8 x hx => ?_, fun x hx => by rw [go 10 (by omega)], fun x hx => by rw [go 11 (by omega)]⟩
    rcases (by omega : k = 1 ∨ k = 2 ∨ k = 3 ∨ k = 4 ∨ k = 5 ∨ k = 6 ∨ k = 7 ∨ k = 8) with z | z | z | z | z | z | z | z <;> subst z
    · rw [g1]; simp [va_up, hx]
    · rw [g2]; simp [va_up, hx]
    · rw [g3]; simp [va_up, hx]
    · rw [g4]; simp [va_up, hx]
    · rw [g5]; simp [va_up, hx]
    · rw [g6]; simp [va_up, hx]
    · rw [g7]; simp [va_up, hx]
    · rw [g8]; simp [va_up, hx]
  exact r_v rfl rfl ⟨s8, hW, hFR, g9, go, by rw [p8, p7, p6, p5, p4, p3, p2, p1, p9], by rw [g1]; simp [va_up], by rw [g2]; simp [va_up], by rw [g3]; simp [va_up], by rw [g4]; simp [va_up], by rw [g5]; simp [va_up], by rw [g6]; simp [va_up], by rw [g7]; simp [va_up], by rw [g8]; simp [va_up]⟩
/-- the way down a path, slash by slash: the node, and where its name's follower begins -/
noncomputable def rk (st : CS) (u : Nat) (P : List Int) : Nat → Int × Int
  | 0 => (0, 0)
  | i + 1 => if rat P i = 47 then (if (rk st u P i).1 = -1 then -1 else chl st u P (rk st u P i).1 (rk st u P i).2 i, (i : Int) + 1) else rk st u P i
theorem rk_s (i : Nat) : rk st u P (i + 1) = if rat P i = 47 then (if (rk st u P i).1 = -1 then -1 else chl st u P (rk st u P i).1 (rk st u P i).2 i, (i : Int) + 1) else rk st u P i := rfl
theorem rk_2 : ∀ i : Nat, (rk st u P i).2 = lsl P i + 1 ∨ P.length < i := by
  intro i
  induction i with
  | zero => exact Or.inl rfl
  | succ i ih =>
    by_cases hl : P.length < i + 1
    · exact Or.inr hl
    · refine Or.inl ?_
      have ih := ih.resolve_right (by omega)
      have hr : rat P i = P.getD i 0 % 256 := rat_in (by omega) (by omega)
      rw [rk_s, hr]
      unfold lsl
      by_cases e : P.getD i 0 % 256 = 47
      · rw [if_pos e, if_pos e]
      · rw [if_neg e, if_neg e]
        exact ih
theorem rk_r : ∀ i : Nat, 0 ≤ (rk st u P i).2 ∧ (rk st u P i).2 ≤ i ∧ ((rk st u P i).1 = -1 ∨ 0 ≤ (rk st u P i).1) := by
  intro i
  induction i with
  | zero => exact ⟨Int.le_refl _, Int.le_refl _, Or.inr (Int.le_refl _)⟩
  | succ i ih =>
    rw [rk_s]
    split
    · refine ⟨by show 0 ≤ (i : Int) + 1; omega, by show (i : Int) + 1 ≤ ((i + 1 : Nat) : Int); omega, ?_⟩
      dsimp only
      split
      · exact Or.inl rfl
      · rcases ffst_r (fun j => (st.2.1 (st.2.2.1 u j) 1) = (rk st u P i).1 ∧ sli ((st.1 (2 * st.2.2.1 u j))) P (rk st u P i).2 i) ((st.2.2.2.1 u) - 1) 1 with z | z
        · exact Or.inl z
        · exact Or.inr (by unfold chl; omega)
    · exact ⟨ih.1, by omega, ih.2.2⟩
theorem rk_m1 {i : Nat} (h : (rk st u P i).1 = -1) : ∀ n : Nat, (rk st u P (i + n)).1 = -1 := by
  intro n
  induction n with
  | zero => exact h
  | succ n ih =>
    show (rk st u P (i + n + 1)).1 = -1
    rw [rk_s, if_pos ih]
    by_cases e : rat P ((i + n : Nat) : Int) = 47
    · rw [if_pos e]
    · rw [if_neg e]
      exact ih
theorem lkl_rk (e : Nat) : ∀ (n i : Nat), i + n = e + 1 → 0 < n → lkl st u P e n i (rk st u P i).1 (rk st u P i).2 = if (rk st u P e).1 = -1 then -1 else chl st u P (rk st u P e).1 (rk st u P e).2 e := by
  intro n
  induction n with
  | zero => intro i h h0; omega
  | succ n ih =>
    intro i h h0
    unfold lkl
    by_cases a : (rk st u P i).1 = -1
    · have z := rk_m1 a (e - i)
      rw [show i + (e - i) = e by omega] at z
      rw [if_pos a, if_pos z, a]
    · rw [if_neg a]
      by_cases e1 : i = e
      · subst e1
        obtain rfl : n = 0 := by omega
        rw [if_pos (Or.inl rfl), if_neg a]
        rfl
      · have i2 := ih (i + 1) (by omega) (by omega)
        rw [rk_s] at i2
        by_cases e2 : rat P i = 47
        · rw [if_pos e2, if_neg a] at i2
          rw [if_pos (Or.inr e2)]
          exact i2
        · rw [if_neg e2] at i2
          rw [if_neg (by omega)]
          exact i2
theorem lkl_0 (e : Nat) : lkl st u P e (e + 1) 0 0 0 = if (rk st u P e).1 = -1 then -1 else chl st u P (rk st u P e).1 (rk st u P e).2 e := lkl_rk e (e + 1) 0 (by omega) (by omega)
theorem lsl_no : ∀ (n : Nat) (i : Nat), lsl P n < i → i ≤ n → n ≤ P.length → rk st u P n = rk st u P i := by
  intro n
  induction n with
  | zero =>
    intro i h1 h2 h3
    obtain rfl : i = 0 := by omega
    rfl
  | succ n ih =>
    intro i h1 h2 h3
    by_cases e : i = n + 1
    · rw [e]
    · have hr : rat P n = P.getD n 0 % 256 := rat_in (by omega) (by omega)
      unfold lsl at h1
      by_cases z : P.getD n 0 % 256 = 47
      · rw [if_pos z] at h1
        omega
      · rw [if_neg z] at h1
        rw [rk_s, hr, if_neg z]
        exact ih i h1 (by omega) (by omega)
/-- the directory of a path -/
theorem drR_rk (hn : (ntR P).toNat ≤ P.length) : drR st u P = (rk st u P (ntR P).toNat).1 ∧ (rk st u P (ntR P).toNat).2 = slsR P + 1 := by
  have hl := lsl_r P (ntR P).toNat
  constructor
  · unfold drR
    by_cases z : slsR P = -1
    · rw [if_pos z, lsl_no (ntR P).toNat 0 (by unfold slsR at z; omega) (by omega) hn]
      rfl
    · rw [if_neg z]
      have hs : 0 ≤ slsR P := by unfold slsR at z ⊢; omega
      obtain ⟨k, hk⟩ : ∃ k : Nat, slsR P = k := ⟨(slsR P).toNat, by omega⟩
      have hk2 : lsl P (ntR P).toNat = k := hk
      rw [hk, Int.toNat_natCast, lkl_0 k, lsl_no (ntR P).toNat (k + 1) (by omega) (by omega) hn, rk_s]
      have h47 : ∀ n : Nat, lsl P n = (k : Int) → P.getD k 0 % 256 = 47 := by
        intro n
        induction n with
        | zero => intro q; unfold lsl at q; omega
        | succ n ih =>
          intro q
          unfold lsl at q
          by_cases y : P.getD n 0 % 256 = 47
          · rw [if_pos y] at q
            obtain rfl : n = k := by omega
            exact y
          · rw [if_neg y] at q
            exact ih q
      have hr : rat P k = P.getD k 0 % 256 := rat_in (by omega) (by omega)
      rw [hr, if_pos (h47 _ hk2)]
  · exact (rk_2 (ntR P).toNat).resolve_right (by omega)
theorem chl_p {a f e : Int} (h : chl st u P a f e ≠ -1) : ∃ i : Nat, 0 < i ∧ i < (st.2.2.2.1 u) ∧ chl st u P a f e = i ∧ (st.2.1 (st.2.2.1 u i) 1) = a ∧ sli ((st.1 (2 * st.2.2.1 u i))) P f e := by
  have q := chl_lt h
  have p := ffst_p _ _ h
  refine ⟨(chl st u P a f e).toNat, by omega, by omega, by omega, p.1, p.2⟩
theorem chl_dir (hT : TI st u) {a f e : Int} (h : chl st u P a f e ≠ -1) : isK st u a 0 := by
  obtain ⟨i, i0, i1, -, e1, -⟩ := chl_p h
  have q := hT.d i i0 i1
  rw [e1] at q
  exact ⟨q.1, by omega, q.2.2⟩
theorem chl_nm (hT : TI st u) {a f e : Int} (h : chl st u P a f e ≠ -1) : nmix P f e ∧ e - f ≤ 100 := by
  obtain ⟨i, i0, i1, -, -, s0, s1, s2, s3⟩ := chl_p h
  have q := hT.n i i0 i1
  obtain ⟨⟨n1, n2, n3⟩, n4, -⟩ := q
  have hg : ∀ j : Nat, f ≤ j → (j : Int) < e → P.getD j 0 = ((st.1 (2 * st.2.2.1 u i))).getD (j - f.toNat) 0 := fun j h1 h2 => by
    rw [s3 (j - f.toNat) (by omega), show f.toNat + (j - f.toNat) = j by omega]
  refine ⟨⟨fun j h1 h2 => ?_, by omega, fun z => n3 ⟨fun j h1 h2 => ?_, by omega⟩⟩, by omega⟩
  · rw [hg j h1 h2]
    exact n1 _ (by omega) (by omega)
  · have y := z.1 (f.toNat + j) (by omega) (by omega)
    rw [hg _ (by omega) (by omega), show f.toNat + j - f.toNat = j by omega] at y
    exact y
/-- where the reference stands -/
noncomputable def mIn (st : CS) (u : Nat) (P : List Int) (i : Nat) : Int := pk (isK st u (rk st u P i).1 0) (rk st u P i).1 (-1)
theorem mIn_r (i : Nat) : mIn st u P i = -1 ∨ (isK st u (mIn st u P i) 0 ∧ mIn st u P i = (rk st u P i).1) := by
  unfold mIn
  by_cases h : isK st u (rk st u P i).1 0
  · rw [pk_t h]
    exact Or.inr ⟨h, rfl⟩
  · rw [pk_f h]
    exact Or.inl rfl
theorem mIn_0 (hT : TI st u) : mIn st u P 0 = 0 := by
  have c := hT.c
  exact pk_t ⟨Int.le_refl _, by show (0 : Int) < _; omega, hT.r.1⟩
theorem mIn_no {i : Nat} (h : rat P i ≠ 47) : mIn st u P (i + 1) = mIn st u P i := by
  unfold mIn
  rw [rk_s, if_neg h]
theorem mIn_m1 (hT : TI st u) {i : Nat} (h : rat P i = 47) (hm : mIn st u P i = -1) : mIn st u P (i + 1) = -1 := by
  have hr := rk_r (st := st) (u := u) (P := P) i
  have hn : ¬ isK st u (rk st u P i).1 0 := fun q => by
    unfold mIn at hm
    rw [pk_t q] at hm
    have := q.1
    omega
  unfold mIn
  rw [rk_s, if_pos h]
  refine pk_f fun q => ?_
  have q : isK st u (if (rk st u P i).1 = -1 then -1 else chl st u P (rk st u P i).1 (rk st u P i).2 i) 0 := q
  split at q
  · have := q.1
    omega
  · have : chl st u P (rk st u P i).1 (rk st u P i).2 i ≠ -1 := fun z => by
      rw [z] at q
      have := q.1
      omega
    exact hn (chl_dir hT this)
theorem mIn_st {i : Nat} (h : rat P i = 47) (hm : mIn st u P i ≠ -1) : mIn st u P (i + 1) = pk (isK st u (chl st u P (mIn st u P i) (rk st u P i).2 i) 0) (chl st u P (mIn st u P i) (rk st u P i).2 i) (-1) := by
  obtain ⟨q1, q2⟩ := (mIn_r (st := st) (u := u) (P := P) i).resolve_left hm
  rw [q2] at q1 ⊢
  have := q1.1
  unfold mIn
  rw [rk_s, if_pos h]
  show pk (isK st u (if (rk st u P i).1 = -1 then -1 else chl st u P (rk st u P i).1 (rk st u P i).2 i) 0) (if (rk st u P i).1 = -1 then -1 else chl st u P (rk st u P i).1 (rk st u P i).2 i) (-1) = _
  rw [if_neg (by omega)]
theorem wk_loop {Q : AO → AH → Prop} (hd2 : 2 ≤ d) (hu : u < 2) (hM : MOK s) (hT : TI (mst s) u) (hW : WM B m0 h s) (h16 : 0 ≤ s.2 16) (hw2 : s.2 16 ≤ 3200) (dr : Int) (e : Nat) (he : (e : Int) ≤ s.2 16) (kk : Go d yMd_walk 125 [aR m0, aI (30 * (u : Int)), aI dr, aI (e : Int), aI (mIn (mst s) u (wy s) e), aI ((rk (mst s) u (wy s) e).2), aI (e : Int)] [] h Q) : ∀ (q i : Nat), i + q = e → Go d yMd_walk 24 [aR m0, aI (30 * (u : Int)), aI dr, aI (e : Int), aI (mIn (mst s) u (wy s) i), aI ((rk (mst s) u (wy s) i).2), aI (i : Int)] [] h Q := by
  have hcn := hM.2.1 u hu
  have hC : ((mst s).2.2.2.1 u) = (s.1 9 u).toNat := rfl
  have hwl := wy_len s
  intro q
  induction q with
  | zero =>
    intro i h1
    obtain rfl : i = e := by omega
    refine g_iload rfl rfl ?_
    refine g_iload_n rfl rfl ?_
    refine g_icmpge rfl rfl (fun c1 => ?_) (fun c => absurd c (by omega))
    exact kk
  | succ q ih =>
    intro i h1
    have hi : i < e := by omega
    have hr := rk_r (st := mst s) (u := u) (P := wy s) i
    have i2 := ih (i + 1) (by omega)
    have h8 := hW.w8 i
    have hra : rat (wy s) i = s.1 13 i % 256 := by
      rw [wy_rat s (by omega) (by omega), Int.toNat_natCast]
    refine g_iload rfl rfl ?_
    refine g_iload_n rfl rfl ?_
    refine g_icmpge rfl rfl (fun c => absurd c (by omega)) (fun c1 => ?_)
    refine g_aload_n rfl rfl ?_
    refine g_get (ci := 8) (kk := 15) rfl rfl hW.ob hW.b0 rfl ?_
    refine g_iload rfl rfl ?_
    refine g_bald rfl hW.a13 (by omega) ?_
    rw [show (s.1 13) ((i : Int)).toNat = s.1 13 i from by rw [Int.toNat_natCast]]
    refine g_bipush (n := 47) rfl (by decide) ?_
    refine g_icmpeq rfl rfl (fun c2 => ?_) (fun c2 => ?_)
    · skip
      have y1 := c2
      have h47 : rat (wy s) i = 47 := by rw [hra, y1]; rfl
      refine g_iload rfl rfl ?_
      refine g_iconst (n := -1) rfl (by decide) ?_
      refine g_icmpeq rfl rfl (fun c3 => ?_) (fun c3 => ?_)
      · skip
        have y2 := c3
        refine g_iload rfl rfl ?_
        refine g_iconst (n := -1) rfl (by decide) ?_
        refine g_icmpeq rfl rfl (fun c4 => ?_) (fun c => absurd c (by omega))
        refine g_iload rfl rfl ?_
        refine g_iconst (n := 1) rfl (by decide) ?_
        refine g_iadd rfl (by omega) ?_
        refine g_istore (L' := [aR m0, aI (30 * (u : Int)), aI dr, aI ((e : Int)), aI (mIn (mst s) u (wy s) i), aI (((i : Int)) + 1), aI ((i : Int))]) rfl rfl ?_
        refine g_iinc (L' := [aR m0, aI (30 * (u : Int)), aI dr, aI ((e : Int)), aI (mIn (mst s) u (wy s) i), aI (((i : Int)) + 1), aI ((i : Int) + 1)]) rfl rfl (by omega) rfl ?_
        refine g_goto rfl rfl ?_
        rw [mIn_m1 hT h47 y2, rk_s, if_pos h47] at i2
        rw [y2]
        exact i2
      · skip
        have y2 := c3
        have hmr := (mIn_r (st := mst s) (u := u) (P := wy s) i).resolve_left y2
        refine g_aload_n rfl rfl ?_
        refine g_get (ci := 8) (kk := 15) rfl rfl hW.ob hW.b0 rfl ?_
        refine g_iload rfl rfl ?_
        refine g_iload rfl rfl ?_
        refine g_iload rfl rfl ?_
        refine g_isub rfl (by omega) ?_
        refine g_S (z := yMd_isName) (e := 1) (A := [aI (((i : Int)) - ((rk (mst s) u (wy s) i).2)), aI ((rk (mst s) u (wy s) i).2), aR (m0 + 13)]) (rest := []) (v := aI (pz (nmW s ((rk (mst s) u (wy s) i).2) ((i : Int) - (rk (mst s) u (wy s) i).2)))) (P := fun h2 => h2 = h) rfl rfl rfl rfl rfl rfl (by omega) (m_isName (by omega) hW _ _ (by omega) (by omega) (by omega) hw2) ?_
        intro hh9 he9
        rw [he9]
        clear he9 hh9
        refine g_ifeq rfl rfl (fun c5 => ?_) (fun c5 => ?_)
        · skip
          have y3 := c5
          refine g_iconst (n := -1) rfl (by decide) ?_
          refine g_istore (L' := [aR m0, aI (30 * (u : Int)), aI dr, aI ((e : Int)), aI (-1), aI ((rk (mst s) u (wy s) i).2), aI ((i : Int))]) rfl rfl ?_
          refine g_iload rfl rfl ?_
          refine g_iconst (n := -1) rfl (by decide) ?_
          refine g_icmpeq rfl rfl (fun c => ?_) (fun c => absurd c (by decide))
          refine g_iload rfl rfl ?_
          refine g_iconst (n := 1) rfl (by decide) ?_
          refine g_iadd rfl (by omega) ?_
          refine g_istore (L' := [aR m0, aI (30 * (u : Int)), aI dr, aI ((e : Int)), aI (-1), aI (((i : Int)) + 1), aI ((i : Int))]) rfl rfl ?_
          refine g_iinc (L' := [aR m0, aI (30 * (u : Int)), aI dr, aI ((e : Int)), aI (-1), aI (((i : Int)) + 1), aI ((i : Int) + 1)]) rfl rfl (by omega) rfl ?_
          refine g_goto rfl rfl ?_
          have e1 : mIn (mst s) u (wy s) (i + 1) = -1 := by
            rw [mIn_st h47 y2]
            first
            | exact pk_f (fun q => y6 q.2.2)
            | (have z : chl (mst s) u (wy s) (mIn (mst s) u (wy s) i) ((rk (mst s) u (wy s) i).2) (i : Int) = -1 := Classical.byContradiction fun q => pz_eq y3 (by have := chl_nm hT q; exact ⟨by rw [show (rk (mst s) u (wy s) i).2 + ((i : Int) - (rk (mst s) u (wy s) i).2) = (i : Int) by omega]; exact this.1, this.2⟩)
               rw [z]
               exact pk_f (fun q => by have := q.1; omega))
          rw [e1, rk_s, if_pos h47] at i2
          exact i2
        · skip
          have y3 := c5
          refine g_aload_n rfl rfl ?_
          refine g_iload_n rfl rfl ?_
          refine g_iload rfl rfl ?_
          refine g_aload_n rfl rfl ?_
          refine g_get (ci := 8) (kk := 15) rfl rfl hW.ob hW.b0 rfl ?_
          refine g_iload rfl rfl ?_
          refine g_iload rfl rfl ?_
          refine g_iload rfl rfl ?_
          refine g_isub rfl (by omega) ?_
          refine g_V (z := yMd_find) (e := 1) (A := [aI (((i : Int)) - ((rk (mst s) u (wy s) i).2)), aI ((rk (mst s) u (wy s) i).2), aR (m0 + 13), aI (mIn (mst s) u (wy s) i), aI (30 * (u : Int))]) (rest := []) (v := aI (chl (mst s) u (wy s) (mIn (mst s) u (wy s) i) ((rk (mst s) u (wy s) i).2) (i : Int))) (P := fun h2 => h2 = h) rfl rfl rfl rfl rfl rfl (by omega) hW.ob hW.b0 ((by rw [show (chl (mst s) u (wy s) (mIn (mst s) u (wy s) i) ((rk (mst s) u (wy s) i).2) (i : Int)) = chl (mst s) u (wy s) (mIn (mst s) u (wy s) i) ((rk (mst s) u (wy s) i).2) ((rk (mst s) u (wy s) i).2 + ((i : Int) - (rk (mst s) u (wy s) i).2)) from by rw [show (rk (mst s) u (wy s) i).2 + ((i : Int) - (rk (mst s) u (wy s) i).2) = (i : Int) by omega]]; exact m_find (by omega) hM hu hT hW _ _ _ (by omega) (by omega) (by omega) hw2)) ?_
          intro hh9 he9
          rw [he9]
          clear he9 hh9
          refine g_goto rfl rfl ?_
          refine g_istore (L' := [aR m0, aI (30 * (u : Int)), aI dr, aI ((e : Int)), aI (chl (mst s) u (wy s) (mIn (mst s) u (wy s) i) ((rk (mst s) u (wy s) i).2) (i : Int)), aI ((rk (mst s) u (wy s) i).2), aI ((i : Int))]) rfl rfl ?_
          refine g_iload rfl rfl ?_
          refine g_iconst (n := -1) rfl (by decide) ?_
          refine g_icmpeq rfl rfl (fun c7 => ?_) (fun c7 => ?_)
          · skip
            have y5 := c7
            refine g_iload rfl rfl ?_
            refine g_iconst (n := 1) rfl (by decide) ?_
            refine g_iadd rfl (by omega) ?_
            refine g_istore (L' := [aR m0, aI (30 * (u : Int)), aI dr, aI ((e : Int)), aI (chl (mst s) u (wy s) (mIn (mst s) u (wy s) i) ((rk (mst s) u (wy s) i).2) (i : Int)), aI (((i : Int)) + 1), aI ((i : Int))]) rfl rfl ?_
            refine g_iinc (L' := [aR m0, aI (30 * (u : Int)), aI dr, aI ((e : Int)), aI (chl (mst s) u (wy s) (mIn (mst s) u (wy s) i) ((rk (mst s) u (wy s) i).2) (i : Int)), aI (((i : Int)) + 1), aI ((i : Int) + 1)]) rfl rfl (by omega) rfl ?_
            refine g_goto rfl rfl ?_
            have e1 : mIn (mst s) u (wy s) (i + 1) = chl (mst s) u (wy s) (mIn (mst s) u (wy s) i) ((rk (mst s) u (wy s) i).2) (i : Int) := by
              rw [mIn_st h47 y2]
              first
              | exact pk_t ⟨by omega, by omega, y6⟩
              | (rw [y5]; exact pk_f (fun q => by have := q.1; omega))
            rw [e1, rk_s, if_pos h47] at i2
            exact i2
          · skip
            have y5 := c7
            have hcl := chl_lt y5
            refine g_aload_n rfl rfl ?_
            refine g_get (ci := 8) (kk := 0) rfl rfl hW.ob hW.b0 rfl ?_
            refine g_iload_n rfl rfl ?_
            refine g_iload rfl rfl ?_
            refine g_iadd rfl (by omega) ?_
            refine g_iald rfl hW.a1 (by omega) ?_
            rw [show (s.1 1) ((30 * (u : Int)) + (chl (mst s) u (wy s) (mIn (mst s) u (wy s) i) ((rk (mst s) u (wy s) i).2) (i : Int))).toNat = s.1 1 (30 * u + (chl (mst s) u (wy s) (mIn (mst s) u (wy s) i) ((rk (mst s) u (wy s) i).2) (i : Int)).toNat) from by rw [show (30 * (u : Int) + chl (mst s) u (wy s) (mIn (mst s) u (wy s) i) ((rk (mst s) u (wy s) i).2) (i : Int)).toNat = 30 * u + (chl (mst s) u (wy s) (mIn (mst s) u (wy s) i) ((rk (mst s) u (wy s) i).2) (i : Int)).toNat by omega]]
            refine g_ifeq rfl rfl (fun c8 => ?_) (fun c8 => ?_)
            · skip
              have y6 := c8
              refine g_iload rfl rfl ?_
              refine g_iconst (n := 1) rfl (by decide) ?_
              refine g_iadd rfl (by omega) ?_
              refine g_istore (L' := [aR m0, aI (30 * (u : Int)), aI dr, aI ((e : Int)), aI (chl (mst s) u (wy s) (mIn (mst s) u (wy s) i) ((rk (mst s) u (wy s) i).2) (i : Int)), aI (((i : Int)) + 1), aI ((i : Int))]) rfl rfl ?_
              refine g_iinc (L' := [aR m0, aI (30 * (u : Int)), aI dr, aI ((e : Int)), aI (chl (mst s) u (wy s) (mIn (mst s) u (wy s) i) ((rk (mst s) u (wy s) i).2) (i : Int)), aI (((i : Int)) + 1), aI ((i : Int) + 1)]) rfl rfl (by omega) rfl ?_
              refine g_goto rfl rfl ?_
              have e1 : mIn (mst s) u (wy s) (i + 1) = chl (mst s) u (wy s) (mIn (mst s) u (wy s) i) ((rk (mst s) u (wy s) i).2) (i : Int) := by
                rw [mIn_st h47 y2]
                first
                | exact pk_t ⟨by omega, by omega, y6⟩
                | (rw [y5]; exact pk_f (fun q => by have := q.1; omega))
              rw [e1, rk_s, if_pos h47] at i2
              exact i2
            · skip
              have y6 := c8
              refine g_iconst (n := -1) rfl (by decide) ?_
              refine g_istore (L' := [aR m0, aI (30 * (u : Int)), aI dr, aI ((e : Int)), aI (-1), aI ((rk (mst s) u (wy s) i).2), aI ((i : Int))]) rfl rfl ?_
              refine g_iload rfl rfl ?_
              refine g_iconst (n := 1) rfl (by decide) ?_
              refine g_iadd rfl (by omega) ?_
              refine g_istore (L' := [aR m0, aI (30 * (u : Int)), aI dr, aI ((e : Int)), aI (-1), aI (((i : Int)) + 1), aI ((i : Int))]) rfl rfl ?_
              refine g_iinc (L' := [aR m0, aI (30 * (u : Int)), aI dr, aI ((e : Int)), aI (-1), aI (((i : Int)) + 1), aI ((i : Int) + 1)]) rfl rfl (by omega) rfl ?_
              refine g_goto rfl rfl ?_
              have e1 : mIn (mst s) u (wy s) (i + 1) = -1 := by
                rw [mIn_st h47 y2]
                first
                | exact pk_f (fun q => y6 q.2.2)
                | (have z : chl (mst s) u (wy s) (mIn (mst s) u (wy s) i) ((rk (mst s) u (wy s) i).2) (i : Int) = -1 := Classical.byContradiction fun q => pz_eq y3 (by have := chl_nm hT q; exact ⟨by rw [show (rk (mst s) u (wy s) i).2 + ((i : Int) - (rk (mst s) u (wy s) i).2) = (i : Int) by omega]; exact this.1, this.2⟩)
                   rw [z]
                   exact pk_f (fun q => by have := q.1; omega))
              rw [e1, rk_s, if_pos h47] at i2
              exact i2
    · skip
      have y1 := c2
      refine g_goto rfl rfl ?_
      refine g_iinc (L' := [aR m0, aI (30 * (u : Int)), aI dr, aI ((e : Int)), aI (mIn (mst s) u (wy s) i), aI ((rk (mst s) u (wy s) i).2), aI ((i : Int) + 1)]) rfl rfl (by omega) rfl ?_
      refine g_goto rfl rfl ?_
      rw [mIn_no (by rw [hra]; omega), rk_s, if_neg (by rw [hra]; omega)] at i2
      exact i2
theorem m_walk (hd2 : 2 ≤ d) (hu : u < 2) (hM : MOK s) (hT : TI (mst s) u) (hW : WM B m0 h s) (hw2 : s.2 16 ≤ 3200) (dr : Int) (hdr : dr = 0 ∨ dr = 1) (e : Nat) (he : s.2 16 = (e : Int) + dr) : Cal d yMd_walk [aR m0, aI (30 * (u : Int)), aI dr] h (RV (some (aI (pk (isK (mst s) u (rk (mst s) u (wy s) e).1 0 ∧ nmix (wy s) (rk (mst s) u (wy s) e).2 (e : Int) ∧ (e : Int) - (rk (mst s) u (wy s) e).2 ≤ 100) (rk (mst s) u (wy s) e).1 (-1)))) (fun h2 => ∃ s', WM B m0 h2 s' ∧ s'.1 = s.1 ∧ (∀ k, k ≠ 17 → k ≠ 18 → s'.2 k = s.2 k) ∧ s'.2 17 = (rk (mst s) u (wy s) e).2 ∧ s'.2 18 = (e : Int) - (rk (mst s) u (wy s) e).2)) := by
  have hr := rk_r (st := mst s) (u := u) (P := wy s) e
  rcases hdr with q | q <;> subst q
  · show Go _ _ 0 [aR m0, aI (30 * (u : Int)), aI 0, none, none, none, none] [] _ _
    refine g_aload_n rfl rfl ?_
    refine g_get (ci := 8) (kk := 16) rfl rfl hW.ob hW.b0 rfl ?_
    refine g_iload_n rfl rfl ?_
    refine g_ifeq rfl rfl (fun c => ?_) (fun c => absurd c (by decide))
    refine g_iconst (n := 0) rfl (by decide) ?_
    refine g_isub rfl (by omega) ?_
    rw [show s.2 16 - 0 = (e : Int) by omega]
    refine g_istore_n (L' := [aR m0, aI (30 * (u : Int)), aI 0, aI ((e : Int)), none, none, none]) rfl rfl ?_
    refine g_iconst (n := 0) rfl (by decide) ?_
    refine g_istore (L' := [aR m0, aI (30 * (u : Int)), aI 0, aI ((e : Int)), aI 0, none, none]) rfl rfl ?_
    refine g_iconst (n := 0) rfl (by decide) ?_
    refine g_istore (L' := [aR m0, aI (30 * (u : Int)), aI 0, aI ((e : Int)), aI 0, aI 0, none]) rfl rfl ?_
    refine g_iconst (n := 0) rfl (by decide) ?_
    refine g_istore (L' := [aR m0, aI (30 * (u : Int)), aI 0, aI ((e : Int)), aI 0, aI 0, aI 0]) rfl rfl ?_
    have kend : Go d yMd_walk 125 [aR m0, aI (30 * (u : Int)), aI 0, aI (e : Int), aI (mIn (mst s) u (wy s) e), aI ((rk (mst s) u (wy s) e).2), aI (e : Int)] [] h (RV (some (aI (pk (isK (mst s) u (rk (mst s) u (wy s) e).1 0 ∧ nmix (wy s) (rk (mst s) u (wy s) e).2 (e : Int) ∧ (e : Int) - (rk (mst s) u (wy s) e).2 ≤ 100) (rk (mst s) u (wy s) e).1 (-1)))) (fun h2 => ∃ s', WM B m0 h2 s' ∧ s'.1 = s.1 ∧ (∀ k, k ≠ 17 → k ≠ 18 → s'.2 k = s.2 k) ∧ s'.2 17 = (rk (mst s) u (wy s) e).2 ∧ s'.2 18 = (e : Int) - (rk (mst s) u (wy s) e).2)) := by
      refine g_aload_n rfl rfl ?_
      refine g_iload rfl rfl ?_
      refine g_put (ci := 8) (kk := 17) (fs' := [aR (m0 + 1), aR (m0 + 2), aR (m0 + 3), aR (m0 + 4), aR (m0 + 5), aR (m0 + 6), aR (m0 + 7), aR (m0 + 8), aR (m0 + 9), aR (m0 + 10), aR (m0 + 11), aI (s.2 11), aR (m0 + 12), aI (s.2 13), aI (s.2 14), aR (m0 + 13), aI (s.2 16), aI ((rk (mst s) u (wy s) e).2), aI (s.2 18), aR (m0 + 14), aR (m0 + 15), aR (m0 + 16), aR (m0 + 17), aR (m0 + 18), aR (m0 + 19), aR (m0 + 20), aI (s.2 26)]) rfl rfl hW.ob hW.b0 (Nat.le_of_ble_eq_true rfl) rfl (by decide) rfl ?_
      generalize hg_hh1 : hput h m0 (eO 8 [aR (m0 + 1), aR (m0 + 2), aR (m0 + 3), aR (m0 + 4), aR (m0 + 5), aR (m0 + 6), aR (m0 + 7), aR (m0 + 8), aR (m0 + 9), aR (m0 + 10), aR (m0 + 11), aI (s.2 11), aR (m0 + 12), aI (s.2 13), aI (s.2 14), aR (m0 + 13), aI (s.2 16), aI ((rk (mst s) u (wy s) e).2), aI (s.2 18), aR (m0 + 14), aR (m0 + 15), aR (m0 + 16), aR (m0 + 17), aR (m0 + 18), aR (m0 + 19), aR (m0 + 20), aI (s.2 26)]) = hh1
      obtain ⟨s2, hW, qi17, oi17, pi17⟩ : ∃ s9, WM B m0 hh1 s9 ∧ s9.2 17 = (rk (mst s) u (wy s) e).2 ∧ (∀ j, j ≠ 17 → s9.2 j = s.2 j) ∧ s9.1 = s.1 := ⟨uI s 17 ((rk (mst s) u (wy s) e).2), by rw [← hg_hh1]; exact hW.setI rfl, by simp [uI, va_up], fun j hj => by simp [uI, va_up, hj], rfl⟩
      refine g_aload_n rfl rfl ?_
      refine g_iload_n rfl rfl ?_
      refine g_iload rfl rfl ?_
      refine g_isub rfl (by omega) ?_
      refine g_put (ci := 8) (kk := 18) (fs' := [aR (m0 + 1), aR (m0 + 2), aR (m0 + 3), aR (m0 + 4), aR (m0 + 5), aR (m0 + 6), aR (m0 + 7), aR (m0 + 8), aR (m0 + 9), aR (m0 + 10), aR (m0 + 11), aI (s2.2 11), aR (m0 + 12), aI (s2.2 13), aI (s2.2 14), aR (m0 + 13), aI (s2.2 16), aI (s2.2 17), aI (((e : Int)) - ((rk (mst s) u (wy s) e).2)), aR (m0 + 14), aR (m0 + 15), aR (m0 + 16), aR (m0 + 17), aR (m0 + 18), aR (m0 + 19), aR (m0 + 20), aI (s2.2 26)]) rfl rfl hW.ob hW.b0 (Nat.le_of_ble_eq_true rfl) rfl (by decide) rfl ?_
      generalize hg_hh2 : hput hh1 m0 (eO 8 [aR (m0 + 1), aR (m0 + 2), aR (m0 + 3), aR (m0 + 4), aR (m0 + 5), aR (m0 + 6), aR (m0 + 7), aR (m0 + 8), aR (m0 + 9), aR (m0 + 10), aR (m0 + 11), aI (s2.2 11), aR (m0 + 12), aI (s2.2 13), aI (s2.2 14), aR (m0 + 13), aI (s2.2 16), aI (s2.2 17), aI (((e : Int)) - ((rk (mst s) u (wy s) e).2)), aR (m0 + 14), aR (m0 + 15), aR (m0 + 16), aR (m0 + 17), aR (m0 + 18), aR (m0 + 19), aR (m0 + 20), aI (s2.2 26)]) = hh2
      obtain ⟨s3, hW, qi18, oi18, pi18⟩ : ∃ s9, WM B m0 hh2 s9 ∧ s9.2 18 = ((e : Int) - (rk (mst s) u (wy s) e).2) ∧ (∀ j, j ≠ 18 → s9.2 j = s2.2 j) ∧ s9.1 = s2.1 := ⟨uI s2 18 (((e : Int) - (rk (mst s) u (wy s) e).2)), by rw [← hg_hh2]; exact hW.setI rfl, by simp [uI, va_up], fun j hj => by simp [uI, va_up, hj], rfl⟩
      have hwy3 : wy s3 = wy s := by
        unfold wy
        rw [pi18, pi17, oi18 16 (by decide), oi17 16 (by decide)]
      have h163 : s3.2 16 = s.2 16 := by rw [oi18 16 (by decide), oi17 16 (by decide)]
      refine g_iload rfl rfl ?_
      refine g_iconst (n := -1) rfl (by decide) ?_
      refine g_icmpeq rfl rfl (fun c3 => ?_) (fun c3 => ?_)
      · skip
        have y2 := c3
        refine g_iconst (n := -1) rfl (by decide) ?_
        have hno : ¬ (isK (mst s) u (rk (mst s) u (wy s) e).1 0 ∧ nmix (wy s) (rk (mst s) u (wy s) e).2 (e : Int) ∧ (e : Int) - (rk (mst s) u (wy s) e).2 ≤ 100) := fun q => by
          first
          | (refine pz_eq y3 ⟨?_, q.2.2⟩; rw [hwy3, show (rk (mst s) u (wy s) e).2 + ((e : Int) - (rk (mst s) u (wy s) e).2) = (e : Int) by omega]; exact q.2.1)
          | (unfold mIn at y2; rw [pk_t q.1] at y2; have := q.1.1; omega)
        exact r_i rfl rfl (pk_f hno).symm ⟨s3, hW, by rw [pi18, pi17], fun k k1 k2 => by rw [oi18 k k2, oi17 k k1], by rw [oi18 17 (by decide)]; exact qi17, qi18⟩
      · skip
        have y2 := c3
        refine g_aload_n rfl rfl ?_
        refine g_get (ci := 8) (kk := 15) rfl rfl hW.ob hW.b0 rfl ?_
        refine g_iload rfl rfl ?_
        refine g_iload_n rfl rfl ?_
        refine g_iload rfl rfl ?_
        refine g_isub rfl (by omega) ?_
        refine g_S (z := yMd_isName) (e := 1) (A := [aI (((e : Int)) - ((rk (mst s) u (wy s) e).2)), aI ((rk (mst s) u (wy s) e).2), aR (m0 + 13)]) (rest := []) (v := aI (pz (nmW s3 ((rk (mst s) u (wy s) e).2) ((e : Int) - (rk (mst s) u (wy s) e).2)))) (P := fun h2 => h2 = hh2) rfl rfl rfl rfl rfl rfl (by omega) (m_isName (s := s3) (by omega) hW _ _ (by omega) (by omega) (by omega) (by omega)) ?_
        intro hh9 he9
        rw [he9]
        clear he9 hh9
        refine g_ifeq rfl rfl (fun c4 => ?_) (fun c4 => ?_)
        · skip
          have y3 := c4
          refine g_iconst (n := -1) rfl (by decide) ?_
          have hno : ¬ (isK (mst s) u (rk (mst s) u (wy s) e).1 0 ∧ nmix (wy s) (rk (mst s) u (wy s) e).2 (e : Int) ∧ (e : Int) - (rk (mst s) u (wy s) e).2 ≤ 100) := fun q => by
            first
            | (refine pz_eq y3 ⟨?_, q.2.2⟩; rw [hwy3, show (rk (mst s) u (wy s) e).2 + ((e : Int) - (rk (mst s) u (wy s) e).2) = (e : Int) by omega]; exact q.2.1)
            | (unfold mIn at y2; rw [pk_t q.1] at y2; have := q.1.1; omega)
          exact r_i rfl rfl (pk_f hno).symm ⟨s3, hW, by rw [pi18, pi17], fun k k1 k2 => by rw [oi18 k k2, oi17 k k1], by rw [oi18 17 (by decide)]; exact qi17, qi18⟩
        · skip
          have y3 := c4
          refine g_iload rfl rfl ?_
          refine g_goto rfl rfl ?_
          have hmr := (mIn_r (st := mst s) (u := u) (P := wy s) e).resolve_left y2
          have hn3 := pz_ne y3
          unfold nmW at hn3
          rw [hwy3, show (rk (mst s) u (wy s) e).2 + ((e : Int) - (rk (mst s) u (wy s) e).2) = (e : Int) by omega] at hn3
          have hyes : isK (mst s) u (rk (mst s) u (wy s) e).1 0 ∧ nmix (wy s) (rk (mst s) u (wy s) e).2 (e : Int) ∧ (e : Int) - (rk (mst s) u (wy s) e).2 ≤ 100 := ⟨by rw [← hmr.2]; exact hmr.1, hn3.1, hn3.2⟩
          exact r_i rfl rfl (by rw [pk_t hyes]; exact hmr.2) ⟨s3, hW, by rw [pi18, pi17], fun k k1 k2 => by rw [oi18 k k2, oi17 k k1], by rw [oi18 17 (by decide)]; exact qi17, qi18⟩
    have k0 := wk_loop hd2 hu hM hT hW (by omega) hw2 0 e (by omega) kend e 0 (by omega)
    rw [mIn_0 hT] at k0
    exact k0
  · show Go _ _ 0 [aR m0, aI (30 * (u : Int)), aI 1, none, none, none, none] [] _ _
    refine g_aload_n rfl rfl ?_
    refine g_get (ci := 8) (kk := 16) rfl rfl hW.ob hW.b0 rfl ?_
    refine g_iload_n rfl rfl ?_
    refine g_ifeq rfl rfl (fun c => absurd c (by decide)) (fun c => ?_)
    refine g_iconst (n := 1) rfl (by decide) ?_
    refine g_goto rfl rfl ?_
    refine g_isub rfl (by omega) ?_
    rw [show s.2 16 - 1 = (e : Int) by omega]
    refine g_istore_n (L' := [aR m0, aI (30 * (u : Int)), aI 1, aI ((e : Int)), none, none, none]) rfl rfl ?_
    refine g_iconst (n := 0) rfl (by decide) ?_
    refine g_istore (L' := [aR m0, aI (30 * (u : Int)), aI 1, aI ((e : Int)), aI 0, none, none]) rfl rfl ?_
    refine g_iconst (n := 0) rfl (by decide) ?_
    refine g_istore (L' := [aR m0, aI (30 * (u : Int)), aI 1, aI ((e : Int)), aI 0, aI 0, none]) rfl rfl ?_
    refine g_iconst (n := 0) rfl (by decide) ?_
    refine g_istore (L' := [aR m0, aI (30 * (u : Int)), aI 1, aI ((e : Int)), aI 0, aI 0, aI 0]) rfl rfl ?_
    have kend : Go d yMd_walk 125 [aR m0, aI (30 * (u : Int)), aI 1, aI (e : Int), aI (mIn (mst s) u (wy s) e), aI ((rk (mst s) u (wy s) e).2), aI (e : Int)] [] h (RV (some (aI (pk (isK (mst s) u (rk (mst s) u (wy s) e).1 0 ∧ nmix (wy s) (rk (mst s) u (wy s) e).2 (e : Int) ∧ (e : Int) - (rk (mst s) u (wy s) e).2 ≤ 100) (rk (mst s) u (wy s) e).1 (-1)))) (fun h2 => ∃ s', WM B m0 h2 s' ∧ s'.1 = s.1 ∧ (∀ k, k ≠ 17 → k ≠ 18 → s'.2 k = s.2 k) ∧ s'.2 17 = (rk (mst s) u (wy s) e).2 ∧ s'.2 18 = (e : Int) - (rk (mst s) u (wy s) e).2)) := by
      refine g_aload_n rfl rfl ?_
      refine g_iload rfl rfl ?_
      refine g_put (ci := 8) (kk := 17) (fs' := [aR (m0 + 1), aR (m0 + 2), aR (m0 + 3), aR (m0 + 4), aR (m0 + 5), aR (m0 + 6), aR (m0 + 7), aR (m0 + 8), aR (m0 + 9), aR (m0 + 10), aR (m0 + 11), aI (s.2 11), aR (m0 + 12), aI (s.2 13), aI (s.2 14), aR (m0 + 13), aI (s.2 16), aI ((rk (mst s) u (wy s) e).2), aI (s.2 18), aR (m0 + 14), aR (m0 + 15), aR (m0 + 16), aR (m0 + 17), aR (m0 + 18), aR (m0 + 19), aR (m0 + 20), aI (s.2 26)]) rfl rfl hW.ob hW.b0 (Nat.le_of_ble_eq_true rfl) rfl (by decide) rfl ?_
      generalize hg_hh1 : hput h m0 (eO 8 [aR (m0 + 1), aR (m0 + 2), aR (m0 + 3), aR (m0 + 4), aR (m0 + 5), aR (m0 + 6), aR (m0 + 7), aR (m0 + 8), aR (m0 + 9), aR (m0 + 10), aR (m0 + 11), aI (s.2 11), aR (m0 + 12), aI (s.2 13), aI (s.2 14), aR (m0 + 13), aI (s.2 16), aI ((rk (mst s) u (wy s) e).2), aI (s.2 18), aR (m0 + 14), aR (m0 + 15), aR (m0 + 16), aR (m0 + 17), aR (m0 + 18), aR (m0 + 19), aR (m0 + 20), aI (s.2 26)]) = hh1
      obtain ⟨s2, hW, qi17, oi17, pi17⟩ : ∃ s9, WM B m0 hh1 s9 ∧ s9.2 17 = (rk (mst s) u (wy s) e).2 ∧ (∀ j, j ≠ 17 → s9.2 j = s.2 j) ∧ s9.1 = s.1 := ⟨uI s 17 ((rk (mst s) u (wy s) e).2), by rw [← hg_hh1]; exact hW.setI rfl, by simp [uI, va_up], fun j hj => by simp [uI, va_up, hj], rfl⟩
      refine g_aload_n rfl rfl ?_
      refine g_iload_n rfl rfl ?_
      refine g_iload rfl rfl ?_
      refine g_isub rfl (by omega) ?_
      refine g_put (ci := 8) (kk := 18) (fs' := [aR (m0 + 1), aR (m0 + 2), aR (m0 + 3), aR (m0 + 4), aR (m0 + 5), aR (m0 + 6), aR (m0 + 7), aR (m0 + 8), aR (m0 + 9), aR (m0 + 10), aR (m0 + 11), aI (s2.2 11), aR (m0 + 12), aI (s2.2 13), aI (s2.2 14), aR (m0 + 13), aI (s2.2 16), aI (s2.2 17), aI (((e : Int)) - ((rk (mst s) u (wy s) e).2)), aR (m0 + 14), aR (m0 + 15), aR (m0 + 16), aR (m0 + 17), aR (m0 + 18), aR (m0 + 19), aR (m0 + 20), aI (s2.2 26)]) rfl rfl hW.ob hW.b0 (Nat.le_of_ble_eq_true rfl) rfl (by decide) rfl ?_
      generalize hg_hh2 : hput hh1 m0 (eO 8 [aR (m0 + 1), aR (m0 + 2), aR (m0 + 3), aR (m0 + 4), aR (m0 + 5), aR (m0 + 6), aR (m0 + 7), aR (m0 + 8), aR (m0 + 9), aR (m0 + 10), aR (m0 + 11), aI (s2.2 11), aR (m0 + 12), aI (s2.2 13), aI (s2.2 14), aR (m0 + 13), aI (s2.2 16), aI (s2.2 17), aI (((e : Int)) - ((rk (mst s) u (wy s) e).2)), aR (m0 + 14), aR (m0 + 15), aR (m0 + 16), aR (m0 + 17), aR (m0 + 18), aR (m0 + 19), aR (m0 + 20), aI (s2.2 26)]) = hh2
      obtain ⟨s3, hW, qi18, oi18, pi18⟩ : ∃ s9, WM B m0 hh2 s9 ∧ s9.2 18 = ((e : Int) - (rk (mst s) u (wy s) e).2) ∧ (∀ j, j ≠ 18 → s9.2 j = s2.2 j) ∧ s9.1 = s2.1 := ⟨uI s2 18 (((e : Int) - (rk (mst s) u (wy s) e).2)), by rw [← hg_hh2]; exact hW.setI rfl, by simp [uI, va_up], fun j hj => by simp [uI, va_up, hj], rfl⟩
      have hwy3 : wy s3 = wy s := by
        unfold wy
        rw [pi18, pi17, oi18 16 (by decide), oi17 16 (by decide)]
      have h163 : s3.2 16 = s.2 16 := by rw [oi18 16 (by decide), oi17 16 (by decide)]
      refine g_iload rfl rfl ?_
      refine g_iconst (n := -1) rfl (by decide) ?_
      refine g_icmpeq rfl rfl (fun c3 => ?_) (fun c3 => ?_)
      · skip
        have y2 := c3
        refine g_iconst (n := -1) rfl (by decide) ?_
        have hno : ¬ (isK (mst s) u (rk (mst s) u (wy s) e).1 0 ∧ nmix (wy s) (rk (mst s) u (wy s) e).2 (e : Int) ∧ (e : Int) - (rk (mst s) u (wy s) e).2 ≤ 100) := fun q => by
          first
          | (refine pz_eq y3 ⟨?_, q.2.2⟩; rw [hwy3, show (rk (mst s) u (wy s) e).2 + ((e : Int) - (rk (mst s) u (wy s) e).2) = (e : Int) by omega]; exact q.2.1)
          | (unfold mIn at y2; rw [pk_t q.1] at y2; have := q.1.1; omega)
        exact r_i rfl rfl (pk_f hno).symm ⟨s3, hW, by rw [pi18, pi17], fun k k1 k2 => by rw [oi18 k k2, oi17 k k1], by rw [oi18 17 (by decide)]; exact qi17, qi18⟩
      · skip
        have y2 := c3
        refine g_aload_n rfl rfl ?_
        refine g_get (ci := 8) (kk := 15) rfl rfl hW.ob hW.b0 rfl ?_
        refine g_iload rfl rfl ?_
        refine g_iload_n rfl rfl ?_
        refine g_iload rfl rfl ?_
        refine g_isub rfl (by omega) ?_
        refine g_S (z := yMd_isName) (e := 1) (A := [aI (((e : Int)) - ((rk (mst s) u (wy s) e).2)), aI ((rk (mst s) u (wy s) e).2), aR (m0 + 13)]) (rest := []) (v := aI (pz (nmW s3 ((rk (mst s) u (wy s) e).2) ((e : Int) - (rk (mst s) u (wy s) e).2)))) (P := fun h2 => h2 = hh2) rfl rfl rfl rfl rfl rfl (by omega) (m_isName (s := s3) (by omega) hW _ _ (by omega) (by omega) (by omega) (by omega)) ?_
        intro hh9 he9
        rw [he9]
        clear he9 hh9
        refine g_ifeq rfl rfl (fun c4 => ?_) (fun c4 => ?_)
        · skip
          have y3 := c4
          refine g_iconst (n := -1) rfl (by decide) ?_
          have hno : ¬ (isK (mst s) u (rk (mst s) u (wy s) e).1 0 ∧ nmix (wy s) (rk (mst s) u (wy s) e).2 (e : Int) ∧ (e : Int) - (rk (mst s) u (wy s) e).2 ≤ 100) := fun q => by
            first
            | (refine pz_eq y3 ⟨?_, q.2.2⟩; rw [hwy3, show (rk (mst s) u (wy s) e).2 + ((e : Int) - (rk (mst s) u (wy s) e).2) = (e : Int) by omega]; exact q.2.1)
            | (unfold mIn at y2; rw [pk_t q.1] at y2; have := q.1.1; omega)
          exact r_i rfl rfl (pk_f hno).symm ⟨s3, hW, by rw [pi18, pi17], fun k k1 k2 => by rw [oi18 k k2, oi17 k k1], by rw [oi18 17 (by decide)]; exact qi17, qi18⟩
        · skip
          have y3 := c4
          refine g_iload rfl rfl ?_
          refine g_goto rfl rfl ?_
          have hmr := (mIn_r (st := mst s) (u := u) (P := wy s) e).resolve_left y2
          have hn3 := pz_ne y3
          unfold nmW at hn3
          rw [hwy3, show (rk (mst s) u (wy s) e).2 + ((e : Int) - (rk (mst s) u (wy s) e).2) = (e : Int) by omega] at hn3
          have hyes : isK (mst s) u (rk (mst s) u (wy s) e).1 0 ∧ nmix (wy s) (rk (mst s) u (wy s) e).2 (e : Int) ∧ (e : Int) - (rk (mst s) u (wy s) e).2 ≤ 100 := ⟨by rw [← hmr.2]; exact hmr.1, hn3.1, hn3.2⟩
          exact r_i rfl rfl (by rw [pk_t hyes]; exact hmr.2) ⟨s3, hW, by rw [pi18, pi17], fun k k1 k2 => by rw [oi18 k k2, oi17 k k1], by rw [oi18 17 (by decide)]; exact qi17, qi18⟩
    have k0 := wk_loop hd2 hu hM hT hW (by omega) hw2 1 e (by omega) kend e 0 (by omega)
    rw [mIn_0 hT] at k0
    exact k0
end Md26
