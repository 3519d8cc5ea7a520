/-! The class's cells as a world: what each cell holds, by a code for each cell. -/
/-- rows (0 to 124), nodes' numbers, trees: order of nodes, count, new numbers; the rest -/
abbrev CS : Type := (Nat → List Int) × (Nat → Nat → Int) × (Nat → Nat → Nat) × (Nat → Nat) × (Nat → Nat → Int) × (Nat → Int)
abbrev HD : Type := Nat → Nat × Nat × (Nat → Int)
/-- the fixed surroundings: which cells stay as they are, what they hold, base and marks -/
abbrev KE : Type := (Nat → Prop) × (Nat → Option AE) × Nat × Nat
def uR (st : CS) (r : Nat) (l : List Int) : CS := (va_up st.1 r l, st.2)
def uN (st : CS) (j k : Nat) (v : Int) : CS := (st.1, va_up st.2.1 j (va_up (st.2.1 j) k v), st.2.2)
def uP (st : CS) (t : Nat) (f : Nat → Nat) : CS := (st.1, st.2.1, va_up st.2.2.1 t f, st.2.2.2)
def uC (st : CS) (t n : Nat) : CS := (st.1, st.2.1, st.2.2.1, va_up st.2.2.2.1 t n, st.2.2.2.2)
def uW (st : CS) (t i : Nat) (v : Int) : CS := (st.1, st.2.1, st.2.2.1, st.2.2.2.1, va_up st.2.2.2.2.1 t (va_up (st.2.2.2.2.1 t) i v), st.2.2.2.2.2)
def uM (st : CS) (k : Nat) (v : Int) : CS := (st.1, st.2.1, st.2.2.1, st.2.2.2.1, st.2.2.2.2.1, va_up st.2.2.2.2.2 k v)
def dm (c : Nat) : Prop := c < 125 ∨ (200 ≤ c ∧ c < 325) ∨ (400 ≤ c ∧ c < 460) ∨ c = 500 ∨ c = 501 ∨ c = 510 ∨ c = 511 ∨ c = 520 ∨ c = 521 ∨ (530 ≤ c ∧ c < 534)
def ad (g : Nat → Nat) (hd : HD) (c : Nat) : Nat := if 200 ≤ c ∧ c < 325 then (hd (c - 200)).1 else g c
/-- the nodes of a tree as its array holds them -/
def nar (g f : Nat → Nat) : Nat → Option Nat := fun i => if i < 30 then some (g (400 + f i)) else none
theorem nar_t {g f : Nat → Nat} {i : Nat} (h : i < 30) : nar g f i = some (g (400 + f i)) := if_pos h
def cel (g : Nat → Nat) (hd : HD) (st : CS) (c : Nat) : AE :=
  if c < 125 then eO 2 [aR (hd c).1, aI (st.1 c).length]
  else if c < 325 then eA 1 (hd (c - 200)).2.1 (hd (c - 200)).2.2
  else if c < 460 then eO 0 [aR (g (2 * (c - 400))), aR (g (2 * (c - 400) + 1)), aI (st.2.1 (c - 400) 0), aI (st.2.1 (c - 400) 1), aI (st.2.1 (c - 400) 2), aI (st.2.1 (c - 400) 3), aI (st.2.1 (c - 400) 4), aI (st.2.1 (c - 400) 5)]
  else if c < 502 then eO 4 [aR (g (c + 10)), aI (st.2.2.2.1 (c - 500)), aR (g (c + 20))]
  else if c < 512 then eQ 3 30 (nar g (st.2.2.1 (c - 510)))
  else if c < 522 then eA 0 30 (st.2.2.2.2.1 (c - 520))
  else if c = 530 then eO 3 [aR (g 121)]
  else if c = 531 then eO 6 [aR (g 530), aR (g 122), aI (st.2.2.2.2.2 2)]
  else if c = 532 then eO 1 [aR (g 530), aR (g 123), aR (g 124), aI (st.2.2.2.2.2 13), aI (st.2.2.2.2.2 14), aL (st.2.2.2.2.2 15), aL (st.2.2.2.2.2 16), aL (st.2.2.2.2.2 17), aL (st.2.2.2.2.2 18), aI (st.2.2.2.2.2 19), aI (st.2.2.2.2.2 20), aI (st.2.2.2.2.2 21), aI (st.2.2.2.2.2 22), aI (st.2.2.2.2.2 23)]
  else eO 7 [aR (g 530), aR (g 531), aR (g 532), aR (g 120), aR (g (500 + (st.2.2.2.2.2 0).toNat)), aR (g (501 - (st.2.2.2.2.2 0).toNat)), aI (st.2.2.2.2.2 1)]
def sumN (f : Nat → Nat) : Nat → Nat
  | 0 => 0
  | n + 1 => sumN f n + f n
def gl (cap : Nat) : Nat := if cap ≤ 16 then 3 else if cap ≤ 128 then 2 else if cap ≤ 2048 then 1 else 0
def gs (cap : Nat) : Nat := if cap ≤ 16 then 12416 else if cap ≤ 128 then 12288 else if cap ≤ 2048 then 10240 else 0
def capok (c : Nat) : Prop := c = 16 ∨ c = 128 ∨ c = 2048 ∨ c = 10240
def rowok (hd : HD) (st : CS) (r : Nat) : Prop := (st.1 r).length ≤ (hd r).2.1 ∧ capok (hd r).2.1 ∧ (∀ i, i < (st.1 r).length → (hd r).2.2 i = (st.1 r).getD i 0) ∧ ∀ v ∈ st.1 r, r8 v
def shp (st : CS) : Prop := (∀ t i, t < 2 → i < 30 → 30 * t ≤ st.2.2.1 t i ∧ st.2.2.1 t i < 30 * t + 30) ∧ (∀ t i j, t < 2 → i < 30 → j < 30 → st.2.2.1 t i = st.2.2.1 t j → i = j) ∧ (∀ t, t < 2 → 1 ≤ st.2.2.2.1 t ∧ st.2.2.2.1 t ≤ 30) ∧ (st.2.2.2.2.2 0 = 0 ∨ st.2.2.2.2.2 0 = 1)
def WC0 (K : KE) (h : AH) (g : Nat → Nat) (hd : HD) (st : CS) (cb sb : Nat) : Prop :=
  (∀ c, dm c → h.1 (ad g hd c) = some (cel g hd st c) ∧ K.2.2.1 ≤ ad g hd c ∧ ad g hd c < h.2.1 ∧ ¬ K.1 (ad g hd c)) ∧
  (∀ c c', dm c → dm c' → ad g hd c = ad g hd c' → c = c') ∧ (∀ r, r < 125 → rowok hd st r) ∧ shp st ∧ h.2.2.2 = K.2.2 ∧ (∀ a, K.1 a → h.1 a = K.2.1 a ∧ a < h.2.1) ∧
  h.2.1 + sumN (fun r => gl (hd r).2.1) 125 ≤ cb ∧ h.2.2.1 + sumN (fun r => gs (hd r).2.1) 125 ≤ sb
def WC (K : KE) (h : AH) (g : Nat → Nat) (st : CS) (cb sb : Nat) : Prop := ∃ hd, WC0 K h g hd st cb sb
theorem ad_g {g : Nat → Nat} {hd : HD} {c : Nat} (h : c < 200 ∨ 325 ≤ c) : ad g hd c = g c := by
  unfold ad
  rw [if_neg (by omega)]
theorem ad_b {g : Nat → Nat} {hd : HD} {r : Nat} (h : r < 125) : ad g hd (200 + r) = (hd r).1 := by
  unfold ad
  rw [if_pos (by omega), Nat.add_sub_cancel_left]
theorem sumN_up {f f' : Nat → Nat} {r : Nat} (ho : ∀ j, j ≠ r → f' j = f j) : ∀ n, r < n → sumN f' n + f r = sumN f n + f' r := by
  have low : ∀ n, n ≤ r → sumN f' n = sumN f n := by
    intro n
    induction n with
    | zero => intro _; rfl
    | succ n ih =>
      intro hn
      show sumN f' n + f' n = sumN f n + f n
      rw [ih (by omega), ho n (by omega)]
  intro n
  induction n with
  | zero => intro h; omega
  | succ n ih =>
    intro hn
    show sumN f' n + f' n + f r = sumN f n + f n + f' r
    by_cases hr : r = n
    · subst hr
      rw [low r (Nat.le_refl _)]
      omega
    · have := ih (by omega)
      rw [ho n (fun h => hr h.symm)]
      omega
theorem sumN_eq {f f' : Nat → Nat} (ho : ∀ j, f' j = f j) (n : Nat) : sumN f' n = sumN f n := by
  have : f' = f := funext ho
  rw [this]
theorem gl_lt {a b : Nat} (ha : capok a) (hb : capok b) (h : a < b) : gl b + 1 ≤ gl a ∧ gs b + b ≤ gs a := by
  rcases ha with rfl | rfl | rfl | rfl <;> rcases hb with rfl | rfl | rfl | rfl <;> first | (exfalso; omega) | decide
section World
variable {K : KE} {h : AH} {g : Nat → Nat} {hd hd' : HD} {st st' : CS} {cb sb : Nat}
/-- one cell of ours is written -/
theorem WC0.put (hW : WC0 K h g hd st cb sb) {c0 : Nat} {e : AE} (hc0 : dm c0) (hB : ∀ r, (hd' r).1 = (hd r).1 ∧ (hd' r).2.1 = (hd r).2.1) (he : cel g hd' st' c0 = e) (ho : ∀ c, dm c → c ≠ c0 → cel g hd' st' c = cel g hd st c) (hr : ∀ r, r < 125 → rowok hd' st' r) (hs : shp st') : WC0 K (hput h (ad g hd c0) e) g hd' st' cb sb := by
  obtain ⟨w1, w2, w3, w4, w5, w6, w7, w8⟩ := hW
  have had : ∀ c, ad g hd' c = ad g hd c := fun c => by
    unfold ad
    rw [(hB _).1]
  refine ⟨fun c hc => ?_, fun c c' h1 h2 h3 => w2 c c' h1 h2 (by rw [← had, ← had]; exact h3), hr, hs, w5, fun a ha => ?_, ?_, ?_⟩
  · rw [had]
    obtain ⟨q1, q2, q3, q4⟩ := w1 c hc
    refine ⟨?_, q2, q3, q4⟩
    by_cases h1 : c = c0
    · subst h1
      rw [hput_eq, he]
    · rw [hput_ne (fun h2 => h1 (w2 c c0 hc hc0 h2)), ho c hc h1]
      exact q1
  · obtain ⟨q1, q2⟩ := w6 a ha
    refine ⟨?_, q2⟩
    rw [hput_ne (fun h2 => (w1 c0 hc0).2.2.2 (by rw [← h2]; exact ha))]
    exact q1
  · rw [sumN_eq (f := fun r => gl (hd r).2.1) (fun j => by rw [(hB j).2])]
    exact w7
  · rw [sumN_eq (f := fun r => gs (hd r).2.1) (fun j => by rw [(hB j).2])]
    exact w8
theorem WC0.thr (hW : WC0 K h g hd st cb sb) : WC0 K (hthr h) g hd st (cb + 1) (sb + 6) := by
  obtain ⟨w1, w2, w3, w4, w5, w6, w7, w8⟩ := hW
  refine ⟨fun c hc => ?_, w2, w3, w4, w5, fun a ha => ?_, ?_, ?_⟩
  · obtain ⟨q1, q2, q3, q4⟩ := w1 c hc
    exact ⟨q1, q2, Nat.lt_succ_of_lt q3, q4⟩
  · obtain ⟨q1, q2⟩ := w6 a ha
    exact ⟨q1, Nat.lt_succ_of_lt q2⟩
  · show h.2.1 + 1 + _ ≤ _
    omega
  · show h.2.2.1 + tThr + _ ≤ _
    unfold tThr
    omega
theorem WC.thr (hW : WC K h g st cb sb) : WC K (hthr h) g st (cb + 1) (sb + 6) := by
  obtain ⟨hd, hW⟩ := hW
  exact ⟨hd, hW.thr⟩
/-- the row r is at new bytes -/
theorem WC0.grow (hW : WC0 K h g hd st cb sb) {r cap : Nat} {F : Nat → Int} (hr : r < 125) (hc : capok cap) (hlt : (hd r).2.1 < cap) (hF : ∀ i, i < (st.1 r).length → F i = (st.1 r).getD i 0) : WC0 K (hput (hnew h (eA 1 cap F) cap) (g r) (eO 2 [aR h.2.1, aI (st.1 r).length])) g (va_up hd r (h.2.1, cap, F)) st cb sb := by
  obtain ⟨w1, w2, w3, w4, w5, w6, w7, w8⟩ := hW
  have hup : ∀ j, j ≠ r → va_up hd r (h.2.1, cap, F) j = hd j := fun j hj => by simp [va_up, hj]
  have hur : va_up hd r (h.2.1, cap, F) r = (h.2.1, cap, F) := by simp [va_up]
  have hne : ∀ c, c ≠ 200 + r → ad g (va_up hd r (h.2.1, cap, F)) c = ad g hd c := fun c hc => by
    unfold ad
    by_cases h1 : 200 ≤ c ∧ c < 325
    · rw [if_pos h1, if_pos h1, hup _ (by omega)]
    · rw [if_neg h1, if_neg h1]
  have hdr : dm r := Or.inl hr
  have hgr : ad g hd r = g r := ad_g (by omega)
  have hnew1 : ad g (va_up hd r (h.2.1, cap, F)) (200 + r) = h.2.1 := by rw [ad_b hr, hur]
  refine ⟨fun c hc => ?_, fun c c' h1 h2 h3 => ?_, fun j hj => ?_, w4, w5, fun a ha => ?_, ?_, ?_⟩
  · by_cases h1 : c = 200 + r
    · subst h1
      rw [hnew1]
      have hb : K.2.2.1 ≤ h.2.1 := by have := w1 r hdr; omega
      refine ⟨?_, hb, Nat.lt_succ_self _, fun hK => by have := (w6 _ hK).2; omega⟩
      rw [hput_ne (by have := (w1 r hdr).2.2.1; rw [hgr] at this; omega), hnew_eq]
      unfold cel
      rw [if_neg (by omega), if_pos (by omega), Nat.add_sub_cancel_left, hur]
    · rw [hne c h1]
      obtain ⟨q1, q2, q3, q4⟩ := w1 c hc
      refine ⟨?_, q2, Nat.lt_succ_of_lt q3, q4⟩
      by_cases h2 : c = r
      · subst h2
        rw [hgr, hput_eq]
        unfold cel
        rw [if_pos hr, hur]
      · rw [hput_ne (fun h3 => h2 (w2 c r hc hdr (by rw [hgr]; exact h3))), hnew_ne (by omega), q1]
        unfold cel
        by_cases h3 : c < 125
        · rw [if_pos h3, if_pos h3, hup c h2]
        · rw [if_neg h3, if_neg h3]
          by_cases h4 : c < 325
          · rw [if_pos h4, if_pos h4, hup _ (by rcases hc with h | h | h | h <;> omega)]
          · rw [if_neg h4, if_neg h4]
  · by_cases e1 : c = 200 + r
    · by_cases e2 : c' = 200 + r
      · omega
      · rw [e1, hnew1, hne c' e2] at h3
        have := (w1 c' h2).2.2.1
        omega
    · by_cases e2 : c' = 200 + r
      · rw [e2, hnew1, hne c e1] at h3
        have := (w1 c h1).2.2.1
        omega
      · rw [hne c e1, hne c' e2] at h3
        exact w2 c c' h1 h2 h3
  · by_cases e1 : j = r
    · subst e1
      obtain ⟨r1, r2, r3, r4⟩ := w3 j hj
      refine ⟨?_, ?_, ?_, r4⟩
      · rw [hur]; show _ ≤ cap; omega
      · rw [hur]; exact hc
      · rw [hur]; exact hF
    · obtain ⟨r1, r2, r3, r4⟩ := w3 j hj
      unfold rowok
      rw [hup j e1]
      exact ⟨r1, r2, r3, r4⟩
  · obtain ⟨q1, q2⟩ := w6 a ha
    refine ⟨?_, Nat.lt_succ_of_lt q2⟩
    rw [hput_ne (fun h2 => (w1 r hdr).2.2.2 (by rw [hgr, ← h2]; exact ha)), hnew_ne (by omega)]
    exact q1
  · have e := sumN_up (f := fun j => gl (hd j).2.1) (f' := fun j => gl (va_up hd r (h.2.1, cap, F) j).2.1) (r := r) (fun j hj => by rw [hup j hj]) 125 hr
    simp only [hur] at e
    show h.2.1 + 1 + _ ≤ _
    have := (gl_lt (w3 r hr).2.1 hc hlt).1
    omega
  · have e := sumN_up (f := fun j => gs (hd j).2.1) (f' := fun j => gs (va_up hd r (h.2.1, cap, F) j).2.1) (r := r) (fun j hj => by rw [hup j hj]) 125 hr
    simp only [hur] at e
    show h.2.2.1 + cap + _ ≤ _
    have := (gl_lt (w3 r hr).2.1 hc hlt).2
    omega
end World
