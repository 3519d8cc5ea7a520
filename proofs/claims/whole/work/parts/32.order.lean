/-! Sums; subtrees; the order in which a tree is written. -/
theorem sm_congr {f f' : Nat → Nat} : ∀ {n : Nat}, (∀ i, i < n → f i = f' i) → sumN f n = sumN f' n := by
  intro n
  induction n with
  | zero => intro _; rfl
  | succ n ih =>
    intro h
    show sumN f n + f n = sumN f' n + f' n
    rw [ih (fun i hi => h i (by omega)), h n (by omega)]
theorem sm_add (f f' : Nat → Nat) (n : Nat) : sumN (fun i => f i + f' i) n = sumN f n + sumN f' n := by
  induction n with
  | zero => rfl
  | succ n ih =>
    show sumN (fun i => f i + f' i) n + (f n + f' n) = (sumN f n + f n) + (sumN f' n + f' n)
    omega
theorem sm_zero {f : Nat → Nat} {n : Nat} (h : ∀ i, i < n → f i = 0) : sumN f n = 0 := by
  induction n with
  | zero => rfl
  | succ n ih =>
    show sumN f n + f n = 0
    rw [ih (fun i hi => h i (by omega)), h n (by omega)]
theorem sm_one {f : Nat → Nat} {n a : Nat} (ha : a < n) : sumN (fun i => if i = a then f i else 0) n = f a := by
  induction n with
  | zero => omega
  | succ n ih =>
    show sumN (fun i => if i = a then f i else 0) n + (if n = a then f n else 0) = f a
    by_cases h : n = a
    · subst h
      rw [if_pos rfl, sm_zero (fun i hi => if_neg (by omega))]
      omega
    · rw [if_neg h, ih (by omega)]
      rfl
theorem sm_swap (F : Nat → Nat → Nat) (m n : Nat) : sumN (fun i => sumN (fun j => F i j) m) n = sumN (fun j => sumN (fun i => F i j) n) m := by
  induction n with
  | zero => exact (sm_zero fun _ _ => rfl).symm
  | succ n ih =>
    show sumN (fun i => sumN (fun j => F i j) m) n + sumN (fun j => F n j) m = sumN (fun j => sumN (fun i => F i j) n + F n j) m
    rw [sm_add, ih]
theorem sm_le {f f' : Nat → Nat} {n : Nat} (h : ∀ i, i < n → f i ≤ f' i) : sumN f n ≤ sumN f' n := by
  induction n with
  | zero => exact Nat.le_refl _
  | succ n ih =>
    show sumN f n + f n ≤ sumN f' n + f' n
    have := ih (fun i hi => h i (by omega))
    have := h n (by omega)
    omega
theorem sm_const (c n : Nat) : sumN (fun _ => c) n = c * n := by
  induction n with
  | zero => rfl
  | succ n ih =>
    show sumN (fun _ => c) n + c = c * (n + 1)
    rw [ih, Nat.mul_succ]
/-- a sum of numbers at most 1 that is as large as can be -/
theorem sm_full {f : Nat → Nat} {n : Nat} (h : ∀ i, i < n → f i ≤ 1) (hs : n ≤ sumN f n) : ∀ i, i < n → f i = 1 := by
  induction n with
  | zero => intro i hi; omega
  | succ n ih =>
    intro i hi
    have h1 : sumN f n ≤ n := by
      have := sm_le (f := f) (f' := fun _ => 1) (n := n) (fun i hi => h i (by omega))
      rw [sm_const] at this
      omega
    have h2 : sumN f n + f n = sumN f (n + 1) := rfl
    have h3 := h n (by omega)
    by_cases he : i = n
    · subst he; omega
    · exact ih (fun i hi => h i (by omega)) (by omega) i (by omega)
theorem sm_inj_le {x : Nat → Nat} {n i : Nat} (hi : ∀ j k, j < n → k < n → x j = x k → j = k) : sumN (fun k => if x k = i then 1 else 0) n ≤ 1 := by
  induction n with
  | zero => exact Nat.zero_le _
  | succ n ih =>
    show sumN (fun k => if x k = i then 1 else 0) n + (if x n = i then 1 else 0) ≤ 1
    by_cases h : x n = i
    · rw [if_pos h, sm_zero (fun k hk => if_neg (fun h2 => by have := hi k n (by omega) (by omega) (by omega); omega))]
      omega
    · rw [if_neg h]
      have := ih (fun j k hj hk => hi j k (by omega) (by omega))
      omega
/-- numbers that are all different and below n: all of them -/
theorem sm_perm {x : Nat → Nat} {n : Nat} (hx : ∀ k, k < n → x k < n) (hi : ∀ j k, j < n → k < n → x j = x k → j = k) (f : Nat → Nat) : sumN (fun k => f (x k)) n = sumN f n := by
  have h1 : ∀ i, i < n → sumN (fun k => if x k = i then 1 else 0) n = 1 := by
    refine sm_full (fun i _ => sm_inj_le hi) ?_
    rw [sm_swap (fun i k => if x k = i then 1 else 0) n n]
    have : sumN (fun k => sumN (fun i => if x k = i then 1 else 0) n) n = sumN (fun _ => 1) n := sm_congr fun k hk => by
      refine (sm_congr fun i _ => ?_).trans (sm_one (f := fun _ => 1) (hx k hk))
      by_cases h : x k = i
      · rw [if_pos h, if_pos h.symm]
      · rw [if_neg h, if_neg (fun q => h q.symm)]
    rw [this, sm_const]
    omega
  have h2 : sumN (fun k => f (x k)) n = sumN (fun k => sumN (fun i => if x k = i then f i else 0) n) n := sm_congr fun k hk => by
    have := sm_one (f := f) (hx k hk)
    rw [← this]
    exact sm_congr fun i _ => by
      by_cases h : x k = i
      · rw [if_pos h, if_pos h.symm]
      · rw [if_neg h, if_neg (fun q => h q.symm)]
  rw [h2, sm_swap (fun k i => if x k = i then f i else 0) n n]
  refine sm_congr fun i hi' => ?_
  have h3 := h1 i hi'
  have h4 : ∀ m, sumN (fun k => if x k = i then f i else 0) m = f i * sumN (fun k => if x k = i then 1 else 0) m := by
    intro m
    induction m with
    | zero => rfl
    | succ m ih =>
      show sumN (fun k => if x k = i then f i else 0) m + (if x m = i then f i else 0) = f i * (sumN (fun k => if x k = i then 1 else 0) m + if x m = i then 1 else 0)
      rw [ih, Nat.mul_add]
      split <;> simp
  rw [h4, h3, Nat.mul_one]
theorem sm_surj {x : Nat → Nat} {n : Nat} (hx : ∀ k, k < n → x k < n) (hi : ∀ j k, j < n → k < n → x j = x k → j = k) {i : Nat} (h : i < n) : ∃ k, k < n ∧ x k = i := by
  refine Classical.byContradiction fun hc => ?_
  have h1 := sm_perm hx hi (fun j => if j = i then 1 else 0)
  rw [sm_one (f := fun _ => 1) h, sm_zero (fun k hk => if_neg (fun q => hc ⟨k, hk, q⟩))] at h1
  omega
noncomputable def wt (p : Prop) (x : Nat) : Nat := @ite Nat p (Classical.propDecidable p) x 0
theorem wt_t {p : Prop} {x : Nat} (h : p) : wt p x = x := @if_pos p (Classical.propDecidable p) h Nat x 0
theorem wt_f {p : Prop} {x : Nat} (h : ¬ p) : wt p x = 0 := @if_neg p (Classical.propDecidable p) h Nat x 0
theorem wt_congr {p q : Prop} {x : Nat} (h : p ↔ q) : wt p x = wt q x := by rw [propext h]
theorem sm_wt (p : Prop) (f : Nat → Nat) (n : Nat) : sumN (fun i => wt p (f i)) n = wt p (sumN f n) := by
  by_cases h : p
  · rw [wt_t h]
    exact sm_congr fun i _ => wt_t h
  · rw [wt_f h]
    exact sm_zero fun i _ => wt_f h
/-- 1 if w lies below v or is v -/
def anF (D : Nat → Nat) : Nat → Nat → Nat → Nat
  | 0, w, v => if w = v then 1 else 0
  | f + 1, w, v => if w = v then 1 else if 0 < w then anF D f (D w) v else 0
def an (D : Nat → Nat) (w v : Nat) : Nat := anF D w w v
def sz (D : Nat → Nat) (C v : Nat) : Nat := sumN (fun w => an D w v) C
noncomputable def poF (D : Nat → Nat) (C : Nat) (lt : Nat → Nat → Prop) : Nat → Nat → Nat
  | 0, _ => 0
  | f + 1, v => if 0 < v then poF D C lt f (D v) + 1 + sumN (fun c => wt (0 < c ∧ D c = D v ∧ lt c v) (sz D C c)) C else 0
noncomputable def pos (D : Nat → Nat) (C : Nat) (lt : Nat → Nat → Prop) (v : Nat) : Nat := poF D C lt v v
section Dfs
variable {C : Nat} {D : Nat → Nat} {lt : Nat → Nat → Prop}
theorem anF_fuel (hD : ∀ i, 0 < i → i < C → D i < i) (v : Nat) : ∀ f g w, w ≤ f → w ≤ g → w < C → anF D f w v = anF D g w v := by
  intro f
  induction f with
  | zero =>
    intro g w h1 h2 h3
    have : w = 0 := by omega
    subst this
    cases g with
    | zero => rfl
    | succ g => simp [anF]
  | succ f ih =>
    intro g w h1 h2 h3
    cases g with
    | zero =>
      have : w = 0 := by omega
      subst this
      simp [anF]
    | succ g =>
      unfold anF
      by_cases hw : 0 < w
      · have := hD w hw h3
        rw [ih g (D w) (by omega) (by omega) (by omega)]
      · simp [hw]
theorem an_0 (v : Nat) : an D 0 v = if 0 = v then 1 else 0 := rfl
theorem an_s (hD : ∀ i, 0 < i → i < C → D i < i) {w v : Nat} (h0 : 0 < w) (hw : w < C) : an D w v = if w = v then 1 else an D (D w) v := by
  have h1 := hD w h0 hw
  obtain ⟨u, rfl⟩ : ∃ u, w = u + 1 := ⟨w - 1, by omega⟩
  show anF D (u + 1) (u + 1) v = _
  unfold anF
  rw [if_pos h0, anF_fuel hD v u (D (u + 1)) (D (u + 1)) (by omega) (by omega) (by omega)]
  rfl
theorem an_gt (hD : ∀ i, 0 < i → i < C → D i < i) {v : Nat} : ∀ n w, w < n → w < C → w < v → an D w v = 0 := by
  intro n
  induction n with
  | zero => intro w h; omega
  | succ n ih =>
    intro w h1 h2 h3
    by_cases h0 : 0 < w
    · have := hD w h0 h2
      rw [an_s hD h0 h2, if_neg (by omega)]
      exact ih _ (by omega) (by omega) (by omega)
    · have : w = 0 := by omega
      subst this
      rw [an_0, if_neg (by omega)]
theorem an_split (hD : ∀ i, 0 < i → i < C → D i < i) {v : Nat} : ∀ n w, w < n → w < C → an D w v = (if w = v then 1 else 0) + sumN (fun c => wt (0 < c ∧ D c = v) (an D w c)) C := by
  intro n
  induction n with
  | zero => intro w h; omega
  | succ n ih =>
    intro w h1 h2
    by_cases hv : w = v
    · rw [if_pos hv, sm_zero (fun c hc => by
        by_cases hp : 0 < c ∧ D c = v
        · rw [wt_t hp]
          have := hD c hp.1 hc
          exact an_gt hD (w + 1) w (by omega) h2 (by omega)
        · exact wt_f hp)]
      by_cases h0 : 0 < w
      · rw [an_s hD h0 h2, if_pos hv]
      · have : w = 0 := by omega
        subst this
        rw [an_0, if_pos hv]
    · rw [if_neg hv]
      by_cases h0 : 0 < w
      · have hd := hD w h0 h2
        rw [an_s hD h0 h2, if_neg hv, ih (D w) (by omega) (by omega)]
        have e : sumN (fun c => wt (0 < c ∧ D c = v) (an D w c)) C = sumN (fun c => (if c = w then wt (0 < c ∧ D c = v) 1 else 0) + wt (0 < c ∧ D c = v) (an D (D w) c)) C := sm_congr fun c hc => by
          by_cases hp : 0 < c ∧ D c = v
          · rw [wt_t hp, wt_t hp, wt_t hp, an_s hD h0 h2]
            by_cases hcw : c = w
            · rw [if_pos hcw, if_pos hcw.symm]
              have := an_gt hD (v := c) (D w + 1) (D w) (by omega) (by omega) (by omega)
              omega
            · rw [if_neg hcw, if_neg (fun q => hcw q.symm)]
              omega
          · rw [wt_f hp, wt_f hp, wt_f hp]
            split <;> rfl
        rw [e, sm_add, sm_one (f := fun c => wt (0 < c ∧ D c = v) 1) h2]
        by_cases hp : D w = v
        · rw [if_pos hp, wt_t ⟨h0, hp⟩]
          omega
        · rw [if_neg hp, wt_f (fun q => hp q.2)]
          omega
      · have : w = 0 := by omega
        subst this
        rw [an_0, if_neg hv, sm_zero (fun c hc => by
          by_cases hp : 0 < c ∧ D c = v
          · rw [wt_t hp, an_0, if_neg (by omega)]
          · exact wt_f hp)]
theorem sz_split (hD : ∀ i, 0 < i → i < C → D i < i) {v : Nat} (hv : v < C) : sz D C v = 1 + sumN (fun c => wt (0 < c ∧ D c = v) (sz D C c)) C := by
  unfold sz
  rw [sm_congr (fun w hw => an_split hD (v := v) (w + 1) w (by omega) hw), sm_add, sm_one (f := fun _ => 1) hv, sm_swap (fun w c => wt (0 < c ∧ D c = v) (an D w c)) C C]
  congr 1
  exact sm_congr fun c _ => sm_wt _ _ _
theorem sz_0 (hD : ∀ i, 0 < i → i < C → D i < i) : sz D C 0 = C := by
  have : ∀ n w, w < n → w < C → an D w 0 = 1 := by
    intro n
    induction n with
    | zero => intro w h; omega
    | succ n ih =>
      intro w h1 h2
      by_cases h0 : 0 < w
      · have := hD w h0 h2
        rw [an_s hD h0 h2]
        split
        · rfl
        · exact ih _ (by omega) (by omega)
      · have : w = 0 := by omega
        subst this
        rfl
  unfold sz
  rw [sm_congr (f' := fun _ => 1) (fun w hw => this (w + 1) w (by omega) hw), sm_const, Nat.one_mul]
theorem poF_fuel (hD : ∀ i, 0 < i → i < C → D i < i) : ∀ f g w, w ≤ f → w ≤ g → w < C → poF D C lt f w = poF D C lt g w := by
  intro f
  induction f with
  | zero =>
    intro g w h1 h2 h3
    have : w = 0 := by omega
    subst this
    cases g with
    | zero => rfl
    | succ g => simp [poF]
  | succ f ih =>
    intro g w h1 h2 h3
    cases g with
    | zero =>
      have : w = 0 := by omega
      subst this
      simp [poF]
    | succ g =>
      unfold poF
      by_cases hw : 0 < w
      · have := hD w hw h3
        rw [ih g (D w) (by omega) (by omega) (by omega)]
      · simp [hw]
theorem pos_0 : pos D C lt 0 = 0 := rfl
theorem pos_s (hD : ∀ i, 0 < i → i < C → D i < i) {v : Nat} (h0 : 0 < v) (hv : v < C) : pos D C lt v = pos D C lt (D v) + 1 + sumN (fun c => wt (0 < c ∧ D c = D v ∧ lt c v) (sz D C c)) C := by
  have h1 := hD v h0 hv
  obtain ⟨u, hu⟩ : ∃ u, v = u + 1 := ⟨v - 1, by omega⟩
  have e : pos D C lt v = poF D C lt (u + 1) v := by
    unfold pos
    rw [← hu]
  have e2 : poF D C lt (u + 1) v = if 0 < v then poF D C lt u (D v) + 1 + sumN (fun c => wt (0 < c ∧ D c = D v ∧ lt c v) (sz D C c)) C else 0 := rfl
  rw [e, e2, if_pos h0, poF_fuel hD u (D v) (D v) (by omega) (by omega) (by omega)]
  rfl
/-- what is known of the order of siblings -/
def sibO (C : Nat) (D : Nat → Nat) (lt : Nat → Nat → Prop) : Prop := (∀ a, ¬ lt a a) ∧ (∀ a b c, lt a b → lt b c → lt a c) ∧ (∀ a b, 0 < a → a < C → 0 < b → b < C → D a = D b → a ≠ b → lt a b ∨ lt b a)
def nxS (C : Nat) (D : Nat → Nat) (lt : Nat → Nat → Prop) (nx : Int → Int → Int) : Prop :=
  (∀ d : Nat, d < C → (nx d (-1) = -1 ∧ ∀ c, 0 < c → c < C → D c ≠ d) ∨ ∃ c : Nat, nx d (-1) = c ∧ 0 < c ∧ c < C ∧ D c = d ∧ ∀ c', 0 < c' → c' < C → D c' = d → c' = c ∨ lt c c') ∧
  (∀ a : Nat, 0 < a → a < C → (nx (D a) a = -1 ∧ ∀ c, 0 < c → c < C → D c = D a → ¬ lt a c) ∨ ∃ c : Nat, nx (D a) a = c ∧ 0 < c ∧ c < C ∧ D c = D a ∧ lt a c ∧ ∀ c', 0 < c' → c' < C → D c' = D a → lt a c' → c' = c ∨ lt c c')
theorem pos_first (hD : ∀ i, 0 < i → i < C → D i < i) (hl : sibO C D lt) {c v : Nat} (h0 : 0 < c) (hc : c < C) (hd : D c = v) (hm : ∀ c', 0 < c' → c' < C → D c' = v → c' = c ∨ lt c c') : pos D C lt c = pos D C lt v + 1 := by
  rw [pos_s hD h0 hc, hd, sm_zero (fun c' hc' => wt_f (fun q => by
    rcases hm c' q.1 hc' q.2.1 with h | h
    · subst h; exact hl.1 _ q.2.2
    · exact hl.1 _ (hl.2.1 _ _ _ h q.2.2)))]
theorem pos_next (hD : ∀ i, 0 < i → i < C → D i < i) (hl : sibO C D lt) {a s : Nat} (ha0 : 0 < a) (ha : a < C) (h0 : 0 < s) (hs : s < C) (hd : D s = D a) (hlt : lt a s) (hm : ∀ c', 0 < c' → c' < C → D c' = D a → lt a c' → c' = s ∨ lt s c') : pos D C lt s = pos D C lt a + sz D C a := by
  rw [pos_s hD h0 hs, pos_s hD ha0 ha, hd]
  have e : sumN (fun c => wt (0 < c ∧ D c = D a ∧ lt c s) (sz D C c)) C = sumN (fun c => wt (0 < c ∧ D c = D a ∧ lt c a) (sz D C c) + if c = a then sz D C c else 0) C := sm_congr fun c hc => by
    by_cases hp : 0 < c ∧ D c = D a
    · by_cases hca : c = a
      · subst hca
        rw [wt_t ⟨hp.1, hp.2, hlt⟩, wt_f (fun q => hl.1 _ q.2.2), if_pos rfl]
        omega
      · rw [if_neg hca]
        rcases hl.2.2 c a hp.1 hc ha0 ha hp.2 hca with h | h
        · rw [wt_t ⟨hp.1, hp.2, hl.2.1 _ _ _ h hlt⟩, wt_t ⟨hp.1, hp.2, h⟩]
          rfl
        · rw [wt_f (fun q => ?_), wt_f (fun q => hl.1 _ (hl.2.1 _ _ _ h q.2.2))]
          rcases hm c hp.1 hc hp.2 h with h1 | h1
          · subst h1; exact hl.1 _ q.2.2
          · exact hl.1 _ (hl.2.1 _ _ _ h1 q.2.2)
    · have hca : c ≠ a := fun q => hp ⟨by omega, by rw [q]⟩
      rw [wt_f (fun q => hp ⟨q.1, q.2.1⟩), wt_f (fun q => hp ⟨q.1, q.2.1⟩), if_neg hca]
  rw [e, sm_add, sm_one (f := sz D C) ha]
  omega
theorem pos_up (hD : ∀ i, 0 < i → i < C → D i < i) (hl : sibO C D lt) {a : Nat} (ha0 : 0 < a) (ha : a < C) (hm : ∀ c, 0 < c → c < C → D c = D a → ¬ lt a c) : pos D C lt a + sz D C a = pos D C lt (D a) + sz D C (D a) := by
  have := hD a ha0 ha
  rw [pos_s hD ha0 ha, sz_split hD (v := D a) (by omega)]
  have e : sumN (fun c => wt (0 < c ∧ D c = D a) (sz D C c)) C = sumN (fun c => wt (0 < c ∧ D c = D a ∧ lt c a) (sz D C c) + if c = a then sz D C c else 0) C := sm_congr fun c hc => by
    by_cases hp : 0 < c ∧ D c = D a
    · rw [wt_t hp]
      by_cases hca : c = a
      · subst hca
        rw [wt_f (fun q => hl.1 _ q.2.2), if_pos rfl]
        omega
      · rw [if_neg hca]
        rcases hl.2.2 c a hp.1 hc ha0 ha hp.2 hca with h | h
        · rw [wt_t ⟨hp.1, hp.2, h⟩]
          rfl
        · exact absurd h (hm c hp.1 hc hp.2)
    · have hca : c ≠ a := fun q => hp ⟨by omega, by rw [q]⟩
      rw [wt_f hp, wt_f (fun q => hp ⟨q.1, q.2.1⟩), if_neg hca]
  rw [e, sm_add, sm_one (f := sz D C) ha]
  omega
def foF (C : Nat) (D : Nat → Nat) (nx : Int → Int → Int) : Nat → Int → Nat → Int
  | 0, x, _ => x
  | n + 1, x, a => if x = -1 ∧ 0 < a ∧ a < C then foF C D nx n (nx (D a) a) (D a) else x
theorem foF_pos {nx : Int → Int → Int} (hD : ∀ i, 0 < i → i < C → D i < i) (hl : sibO C D lt) (hn : nxS C D lt nx) (p : Nat) : ∀ (n : Nat) (x : Int) (a : Nat), a ≤ n → a < C → (x = -1 → pos D C lt a + sz D C a = p) → (x ≠ -1 → ∃ s : Nat, x = s ∧ 0 < s ∧ s < C ∧ pos D C lt s = p) → (foF C D nx n x a = -1 ∧ p = C) ∨ ∃ s : Nat, foF C D nx n x a = s ∧ 0 < s ∧ s < C ∧ pos D C lt s = p := by
  intro n
  induction n with
  | zero =>
    intro x a h1 h2 h3 h4
    have : a = 0 := by omega
    subst this
    show (x = -1 ∧ _) ∨ ∃ s : Nat, x = s ∧ _
    by_cases hx : x = -1
    · have := h3 hx
      rw [pos_0, sz_0 hD] at this
      exact Or.inl ⟨hx, by omega⟩
    · exact Or.inr (h4 hx)
  | succ n ih =>
    intro x a h1 h2 h3 h4
    unfold foF
    by_cases hx : x = -1
    · have h5 := h3 hx
      by_cases ha : 0 < a
      · rw [if_pos ⟨hx, ha, h2⟩]
        have h6 := hD a ha h2
        rcases hn.2 a ha h2 with ⟨q1, q2⟩ | ⟨c, q1, q2, q3, q4, q5, q6⟩
        · refine ih _ _ (by omega) (by omega) (fun _ => ?_) (fun q => absurd q1 q)
          rw [← pos_up hD hl ha h2 q2]
          exact h5
        · refine ih _ _ (by omega) (by omega) (fun q => by omega) (fun _ => ⟨c, q1, q2, q3, ?_⟩)
          rw [pos_next hD hl ha h2 q2 q3 q4 q5 q6]
          exact h5
      · rw [if_neg (fun q => ha q.2.1)]
        have : a = 0 := by omega
        subst this
        rw [pos_0, sz_0 hD] at h5
        exact Or.inl ⟨hx, by omega⟩
    · rw [if_neg (fun q => hx q.1)]
      exact Or.inr (h4 hx)
/-- the next one in the order, from v on -/
theorem foF_next {nx : Int → Int → Int} (hD : ∀ i, 0 < i → i < C → D i < i) (hl : sibO C D lt) (hn : nxS C D lt nx) {n v : Nat} (hv : v < C) (hf : v ≤ n) : (foF C D nx n (nx v (-1)) v = -1 ∧ pos D C lt v + 1 = C) ∨ ∃ s : Nat, foF C D nx n (nx v (-1)) v = s ∧ 0 < s ∧ s < C ∧ pos D C lt s = pos D C lt v + 1 := by
  refine foF_pos hD hl hn _ n _ v hf hv (fun hx => ?_) (fun hx => ?_)
  · rcases hn.1 v hv with ⟨q1, q2⟩ | ⟨c, q1, q2, q3, q4, q5⟩
    · rw [sz_split hD hv, sm_zero (fun c hc => wt_f (fun q => q2 c q.1 hc q.2))]
    · omega
  · rcases hn.1 v hv with ⟨q1, q2⟩ | ⟨c, q1, q2, q3, q4, q5⟩
    · omega
    · exact ⟨c, q1, q2, q3, pos_first hD hl q2 q3 q4 q5⟩
/-- the k-th in the order -/
def seqX (fo : Nat → Int) : Nat → Nat
  | 0 => 0
  | k + 1 => (fo (seqX fo k)).toNat
theorem seqX_ok {nx : Int → Int → Int} (hC : 1 ≤ C) (hD : ∀ i, 0 < i → i < C → D i < i) (hl : sibO C D lt) (hn : nxS C D lt nx) {n : Nat} (hf : C ≤ n) {fo : Nat → Int} (hfo : ∀ v, v < C → fo v = foF C D nx n (nx v (-1)) v) : (∀ k, k < C → seqX fo k < C ∧ pos D C lt (seqX fo k) = k ∧ (0 < k → 0 < seqX fo k)) ∧ (∀ k, k + 1 < C → fo (seqX fo k) = seqX fo (k + 1)) ∧ fo (seqX fo (C - 1)) = -1 := by
  have h1 : ∀ k, k < C → seqX fo k < C ∧ pos D C lt (seqX fo k) = k ∧ (0 < k → 0 < seqX fo k) := by
    intro k
    induction k with
    | zero => intro h; exact ⟨h, pos_0, fun q => by omega⟩
    | succ k ih =>
      intro h
      obtain ⟨i1, i2, i3⟩ := ih (by omega)
      show (fo (seqX fo k)).toNat < C ∧ pos D C lt (fo (seqX fo k)).toNat = k + 1 ∧ (0 < k + 1 → 0 < (fo (seqX fo k)).toNat)
      rw [hfo _ i1]
      rcases foF_next hD hl hn i1 (n := n) (by omega) with ⟨q1, q2⟩ | ⟨s, q1, q2, q3, q4⟩
      · omega
      · rw [q1]
        exact ⟨q3, by rw [Int.toNat_natCast, q4, i2], fun _ => q2⟩
  refine ⟨h1, fun k hk => ?_, ?_⟩
  · obtain ⟨i1, i2, i3⟩ := h1 k (by omega)
    show fo (seqX fo k) = ((fo (seqX fo k)).toNat : Int)
    rw [hfo _ i1]
    rcases foF_next hD hl hn i1 (n := n) (by omega) with ⟨q1, q2⟩ | ⟨s, q1, q2, q3, q4⟩
    · omega
    · rw [q1]; rfl
  · obtain ⟨i1, i2, i3⟩ := h1 (C - 1) (by omega)
    rw [hfo _ i1]
    rcases foF_next hD hl hn i1 (n := n) (by omega) with ⟨q1, q2⟩ | ⟨s, q1, q2, q3, q4⟩
    · exact q1
    · exfalso
      have h9 := h1
      -- pos s = C: no such place
      have : ∀ k, k < C → seqX fo k < C := fun k hk => (h1 k hk).1
      obtain ⟨k, hk, hks⟩ := sm_surj (x := seqX fo) (n := C) this (fun j k hj hk e => by
        have a := (h1 j hj).2.1
        have b := (h1 k hk).2.1
        rw [e] at a
        omega) q3
      have := (h1 k hk).2.1
      rw [hks] at this
      omega
theorem seqX_inj {fo : Nat → Int} (h : ∀ k, k < C → seqX fo k < C ∧ pos D C lt (seqX fo k) = k ∧ (0 < k → 0 < seqX fo k)) : ∀ j k, j < C → k < C → seqX fo j = seqX fo k → j = k := fun j k hj hk e => by
  have a := (h j hj).2.1
  have b := (h k hk).2.1
  rw [e] at a
  omega
end Dfs
/-! What is always so of a tree. -/
def rowR8 (l : List Int) : Prop := ∀ v ∈ l, r8 v
def tiD (st : CS) (t : Nat) : Prop := ∀ i, 0 < i → i < (st.2.2.2.1 t) → 0 ≤ (st.2.1 (st.2.2.1 t i) 1) ∧ (st.2.1 (st.2.2.1 t i) 1) < i ∧ (st.2.1 (st.2.2.1 t ((st.2.1 (st.2.2.1 t i) 1)).toNat) 0) = 0
def tiK (st : CS) (t : Nat) : Prop := ∀ i, i < (st.2.2.2.1 t) → 0 ≤ (st.2.1 (st.2.2.1 t i) 0) ∧ (st.2.1 (st.2.2.1 t i) 0) ≤ 3
def tiU (st : CS) (t : Nat) : Prop := ∀ i j, 0 < i → i < (st.2.2.2.1 t) → 0 < j → j < (st.2.2.2.1 t) → (st.2.1 (st.2.2.1 t i) 1) = (st.2.1 (st.2.2.1 t j) 1) → (st.1 (2 * st.2.2.1 t i)) = (st.1 (2 * st.2.2.1 t j)) → i = j
def tiN (st : CS) (t : Nat) : Prop := ∀ i, 0 < i → i < (st.2.2.2.1 t) → nmix ((st.1 (2 * st.2.2.1 t i))) 0 ((st.1 (2 * st.2.2.1 t i))).length ∧ ((st.1 (2 * st.2.2.1 t i))).length ≤ 100 ∧ rowR8 ((st.1 (2 * st.2.2.1 t i)))
def tiF (st : CS) (t : Nat) : Prop := ∀ i, i < (st.2.2.2.1 t) → ((st.2.1 (st.2.2.1 t i) 0) = 3 → 0 ≤ (st.2.1 (st.2.2.1 t i) 2) ∧ (st.2.1 (st.2.2.1 t i) 2) < i ∧ (st.2.1 (st.2.2.1 t ((st.2.1 (st.2.2.1 t i) 2)).toNat) 0) = 1) ∧ ((st.2.1 (st.2.2.1 t i) 0) ≠ 3 → (st.2.1 (st.2.2.1 t i) 2) = -1)
def tiB (st : CS) (t : Nat) : Prop := ∀ i, i < (st.2.2.2.1 t) → ((st.2.1 (st.2.2.1 t i) 0) = 1 → ((st.1 (2 * st.2.2.1 t i + 1))).length ≤ 2000) ∧ ((st.2.1 (st.2.2.1 t i) 0) = 2 → ((st.1 (2 * st.2.2.1 t i + 1))).length ≤ 100) ∧ ((st.2.1 (st.2.2.1 t i) 0) ≠ 1 → (st.2.1 (st.2.2.1 t i) 0) ≠ 2 → (st.1 (2 * st.2.2.1 t i + 1)) = [])
def tiR (st : CS) (t : Nat) : Prop := (st.2.1 (st.2.2.1 t 0) 0) = 0 ∧ (st.2.1 (st.2.2.1 t 0) 1) = -1 ∧ (st.1 (2 * st.2.2.1 t 0)) = []
def tiV (st : CS) (t : Nat) : Prop := ∀ i, i < (st.2.2.2.1 t) → 0 ≤ (st.2.1 (st.2.2.1 t i) 3) ∧ (st.2.1 (st.2.2.1 t i) 3) ≤ 4095 ∧ 0 ≤ (st.2.1 (st.2.2.1 t i) 4) ∧ (st.2.1 (st.2.2.1 t i) 4) ≤ 2097151 ∧ 0 ≤ (st.2.1 (st.2.2.1 t i) 5) ∧ (st.2.1 (st.2.2.1 t i) 5) ≤ 2147483647
def TI (st : CS) (t : Nat) : Prop := (1 ≤ (st.2.2.2.1 t) ∧ (st.2.2.2.1 t) ≤ 30) ∧ tiD st t ∧ tiK st t ∧ tiU st t ∧ tiN st t ∧ tiF st t ∧ tiB st t ∧ tiR st t ∧ tiV st t
section Ti
variable {st : CS} {t : Nat}
theorem TI.c (h : TI st t) : 1 ≤ (st.2.2.2.1 t) ∧ (st.2.2.2.1 t) ≤ 30 := h.1
theorem TI.d (h : TI st t) : tiD st t := h.2.1
theorem TI.k (h : TI st t) : tiK st t := h.2.2.1
theorem TI.u (h : TI st t) : tiU st t := h.2.2.2.1
theorem TI.n (h : TI st t) : tiN st t := h.2.2.2.2.1
theorem TI.f (h : TI st t) : tiF st t := h.2.2.2.2.2.1
theorem TI.b (h : TI st t) : tiB st t := h.2.2.2.2.2.2.1
theorem TI.r (h : TI st t) : tiR st t := h.2.2.2.2.2.2.2.1
theorem TI.v (h : TI st t) : tiV st t := h.2.2.2.2.2.2.2.2
theorem cmpv_cons (a b : Int) (l m : List Int) : cmpv (a :: l) (b :: m) = if a % 256 = b % 256 then cmpv l m else a % 256 - b % 256 := rfl
theorem cmpv_asy : ∀ l m : List Int, cmpv l m = - cmpv m l := by
  intro l
  induction l with
  | nil =>
    intro m
    rw [cmpv_nil (Or.inl rfl), cmpv_nil (Or.inr rfl)]
    omega
  | cons a l ih =>
    intro m
    cases m with
    | nil =>
      rw [cmpv_nil (Or.inl rfl), cmpv_nil (Or.inr rfl)]
      omega
    | cons b m =>
      rw [cmpv_cons, cmpv_cons, ih m]
      by_cases h : a % 256 = b % 256
      · rw [if_pos h, if_pos h.symm]
      · rw [if_neg h, if_neg (fun q => h q.symm)]
        omega
theorem cmpv_eq0 : ∀ l m : List Int, rowR8 l → rowR8 m → cmpv l m = 0 → l = m := by
  intro l
  induction l with
  | nil =>
    intro m _ _ h
    rw [cmpv_nil (Or.inl rfl)] at h
    have : m.length = 0 := by simp only [List.length_nil] at h; omega
    exact (List.eq_nil_of_length_eq_zero this).symm
  | cons a l ih =>
    intro m h1 h2 h
    cases m with
    | nil =>
      rw [cmpv_nil (Or.inr rfl)] at h
      simp at h
      omega
    | cons b m =>
      rw [cmpv_cons] at h
      by_cases e : a % 256 = b % 256
      · rw [if_pos e] at h
        have q1 := h1 a (by simp)
        have q2 := h2 b (by simp)
        unfold r8 at q1 q2
        have : a = b := by omega
        rw [this, ih m (fun v hv => h1 v (by simp [hv])) (fun v hv => h2 v (by simp [hv])) h]
      · rw [if_neg e] at h
        omega
theorem cmpv_tr : ∀ l m n : List Int, 0 < cmpv l m → 0 < cmpv m n → 0 < cmpv l n := by
  intro l
  induction l with
  | nil =>
    intro m n h _
    rw [cmpv_nil (Or.inl rfl)] at h
    simp at h
    omega
  | cons a l ih =>
    intro m n h1 h2
    cases m with
    | nil =>
      rw [cmpv_nil (Or.inl rfl)] at h2
      simp at h2
      omega
    | cons b m =>
      cases n with
      | nil =>
        rw [cmpv_nil (Or.inr rfl)]
        simp only [List.length_nil, List.length_cons]
        omega
      | cons c n =>
        rw [cmpv_cons] at h1 h2 ⊢
        by_cases e1 : a % 256 = b % 256
        · rw [if_pos e1] at h1
          by_cases e2 : b % 256 = c % 256
          · rw [if_pos e2] at h2
            rw [if_pos (by omega)]
            exact ih m n h1 h2
          · rw [if_neg e2] at h2
            rw [if_neg (by omega)]
            omega
        · rw [if_neg e1] at h1
          by_cases e2 : b % 256 = c % 256
          · rw [if_neg (by omega)]
            omega
          · rw [if_neg e2] at h2
            rw [if_neg (by omega)]
            omega
def ltS (st : CS) (t a b : Nat) : Prop := 0 < cmpv ((st.1 (2 * st.2.2.1 t b))) ((st.1 (2 * st.2.2.1 t a)))
def dN (st : CS) (t i : Nat) : Nat := ((st.2.1 (st.2.2.1 t i) 1)).toNat
theorem TI.dn (h : TI st t) : ∀ i, 0 < i → i < (st.2.2.2.1 t) → dN st t i < i := fun i h0 h1 => by
  have := h.d i h0 h1
  unfold dN
  omega
theorem TI.dc (h : TI st t) {i : Nat} (h0 : 0 < i) (h1 : i < (st.2.2.2.1 t)) : ((dN st t i : Nat) : Int) = (st.2.1 (st.2.2.1 t i) 1) := by
  have := h.d i h0 h1
  unfold dN
  omega
theorem ltS_n {a b : Nat} : ¬ (ltS st t a b ∧ ltS st t b a) := fun ⟨h1, h2⟩ => by
  unfold ltS at h1 h2
  rw [cmpv_asy] at h1
  omega
theorem TI.sib (h : TI st t) : sibO ((st.2.2.2.1 t)) (dN st t) (ltS st t) := by
  refine ⟨fun a q => ltS_n ⟨q, q⟩, fun a b c h1 h2 => cmpv_tr _ _ _ h2 h1, fun a b a0 a1 b0 b1 hd hne => ?_⟩
  have e : (st.2.1 (st.2.2.1 t a) 1) = (st.2.1 (st.2.2.1 t b) 1) := by rw [← h.dc a0 a1, ← h.dc b0 b1, hd]
  unfold ltS
  rw [cmpv_asy ((st.1 (2 * st.2.2.1 t a)))]
  by_cases hz : cmpv ((st.1 (2 * st.2.2.1 t b))) ((st.1 (2 * st.2.2.1 t a))) = 0
  · exact absurd (h.u a b a0 a1 b0 b1 e (cmpv_eq0 _ _ (h.n b b0 b1).2.2 (h.n a a0 a1).2.2 hz).symm) hne
  · omega
theorem cbh_in {i o : Nat} (hi : i < (st.2.2.2.1 t)) (ho : o < (st.2.2.2.1 t)) : cbh st t i o ↔ ltS st t o i := by
  unfold cbh ltS hs
  rw [Int.toNat_natCast, Int.toNat_natCast]
  constructor
  · intro q
    rcases q with q | q
    · exact absurd ⟨by omega, by omega⟩ q
    · exact q.2
  · intro q
    exact Or.inr ⟨⟨by omega, by omega⟩, q⟩
theorem cbh_none (i : Int) : cbh st t i (-1) := Or.inl (fun q => by have := q.1; omega)
/-- the least child of d that comes behind b -/
def nxQ (st : CS) (t : Nat) (d b : Int) (c : Nat) : Prop := 0 < c ∧ (st.2.1 (st.2.2.1 t c) 1) = d ∧ cbh st t c b
theorem TI.nxf (h : TI st t) (d b : Int) : ∀ (n i : Nat) (x : Int), 0 < i → i + n = (st.2.2.2.1 t) → ((x = -1 ∧ ∀ c, c < i → ¬ nxQ st t d b c) ∨ ∃ c0 : Nat, x = c0 ∧ c0 < i ∧ nxQ st t d b c0 ∧ ∀ c, c < i → nxQ st t d b c → c = c0 ∨ ltS st t c0 c) → ((nxF st t d b n i x = -1 ∧ ∀ c, c < (st.2.2.2.1 t) → ¬ nxQ st t d b c) ∨ ∃ c0 : Nat, nxF st t d b n i x = c0 ∧ c0 < (st.2.2.2.1 t) ∧ nxQ st t d b c0 ∧ ∀ c, c < (st.2.2.2.1 t) → nxQ st t d b c → c = c0 ∨ ltS st t c0 c) := by
  intro n
  induction n with
  | zero =>
    intro i x h0 hi hx
    have : i = (st.2.2.2.1 t) := by omega
    rw [← this]
    exact hx
  | succ n ih =>
    intro i x h0 hi hx
    unfold nxF
    by_cases hp : (st.2.1 (st.2.2.1 t i) 1) = d ∧ cbh st t i b ∧ (x = -1 ∨ cbh st t x i)
    · rw [@if_pos _ (Classical.propDecidable _) hp]
      refine ih (i + 1) i (by omega) (by omega) (Or.inr ⟨i, rfl, by omega, ⟨h0, hp.1, hp.2.1⟩, fun c hc hq => ?_⟩)
      by_cases e : c = i
      · exact Or.inl e
      · right
        rcases hx with ⟨q1, q2⟩ | ⟨c0, q1, q2, q3, q4⟩
        · exact absurd hq (q2 c (by omega))
        · have h5 : ltS st t i c0 := by
            rcases hp.2.2 with q | q
            · omega
            · rw [q1] at q
              exact (cbh_in (by omega) (by omega)).1 q
          rcases q4 c (by omega) hq with q | q
          · rw [q]; exact h5
          · exact h.sib.2.1 _ _ _ h5 q
    · rw [@if_neg _ (Classical.propDecidable _) hp]
      refine ih (i + 1) x (by omega) (by omega) ?_
      rcases hx with ⟨q1, q2⟩ | ⟨c0, q1, q2, q3, q4⟩
      · refine Or.inl ⟨q1, fun c hc hq => ?_⟩
        by_cases e : c = i
        · subst e
          exact hp ⟨hq.2.1, hq.2.2, Or.inl q1⟩
        · exact q2 c (by omega) hq
      · refine Or.inr ⟨c0, q1, by omega, q3, fun c hc hq => ?_⟩
        by_cases e : c = i
        · subst e
          right
          rcases h.sib.2.2 c c0 h0 (by omega) q3.1 (by omega) (by unfold dN; rw [hq.2.1, q3.2.1]) (by omega) with w | w
          · exact absurd ⟨hq.2.1, hq.2.2, Or.inr (by rw [q1]; exact (cbh_in (by omega) (by omega)).2 w)⟩ hp
          · exact w
        · exact q4 c (by omega) hq
theorem TI.nx (h : TI st t) (d b : Int) : ((nxt st t d b = -1 ∧ ∀ c, c < (st.2.2.2.1 t) → ¬ nxQ st t d b c) ∨ ∃ c0 : Nat, nxt st t d b = c0 ∧ c0 < (st.2.2.2.1 t) ∧ nxQ st t d b c0 ∧ ∀ c, c < (st.2.2.2.1 t) → nxQ st t d b c → c = c0 ∨ ltS st t c0 c) := by
  have hc := h.c
  exact h.nxf d b ((st.2.2.2.1 t) - 1) 1 (-1) (by omega) (by omega) (Or.inl ⟨rfl, fun c hc hq => by have := hq.1; omega⟩)
theorem TI.nxs (h : TI st t) : nxS ((st.2.2.2.1 t)) (dN st t) (ltS st t) (nxt st t) := by
  have e : ∀ {c d : Nat}, 0 < c → c < (st.2.2.2.1 t) → ((st.2.1 (st.2.2.1 t c) 1) = (d : Int) ↔ dN st t c = d) := fun {c d} h0 h1 => by
    have := h.dc h0 h1
    constructor
    · intro q; omega
    · intro q; omega
  constructor
  · intro d hd
    rcases h.nx d (-1) with ⟨q1, q2⟩ | ⟨c0, q1, q2, q3, q4⟩
    · exact Or.inl ⟨q1, fun c h0 h1 q => q2 c h1 ⟨h0, (e h0 h1).2 q, cbh_none _⟩⟩
    · exact Or.inr ⟨c0, q1, q3.1, q2, (e q3.1 q2).1 q3.2.1, fun c' h0 h1 q => q4 c' h1 ⟨h0, (e h0 h1).2 q, cbh_none _⟩⟩
  · intro a ha0 ha
    rcases h.nx (dN st t a) a with ⟨q1, q2⟩ | ⟨c0, q1, q2, q3, q4⟩
    · exact Or.inl ⟨q1, fun c h0 h1 q w => q2 c h1 ⟨h0, (e h0 h1).2 q, (cbh_in h1 ha).2 w⟩⟩
    · exact Or.inr ⟨c0, q1, q3.1, q2, (e q3.1 q2).1 q3.2.1, (cbh_in q2 ha).1 q3.2.2, fun c' h0 h1 q w => q4 c' h1 ⟨h0, (e h0 h1).2 q, (cbh_in h1 ha).2 w⟩⟩
theorem TI.fof (h : TI st t) : ∀ (n : Nat) (x : Int) (a : Nat), fwF st t n x a = foF ((st.2.2.2.1 t)) (dN st t) (nxt st t) n x a := by
  intro n
  induction n with
  | zero => intro x a; rfl
  | succ n ih =>
    intro x a
    unfold fwF foF
    by_cases hp : x = -1 ∧ 0 < a ∧ a < (st.2.2.2.1 t)
    · rw [if_pos ⟨hp.1, by omega, by omega⟩, if_pos hp, Int.toNat_natCast, ← h.dc hp.2.1 hp.2.2, ih]
    · rw [if_neg (fun q => hp ⟨q.1, by omega, by omega⟩), if_neg hp]
/-- the order in which the nodes are written -/
noncomputable def sqX (st : CS) (t : Nat) : Nat → Nat := seqX (fun v => fol st t v)
theorem TI.seq (h : TI st t) : (∀ k, k < (st.2.2.2.1 t) → sqX st t k < (st.2.2.2.1 t) ∧ pos (dN st t) ((st.2.2.2.1 t)) (ltS st t) (sqX st t k) = k ∧ (0 < k → 0 < sqX st t k)) ∧ (∀ k, k + 1 < (st.2.2.2.1 t) → fol st t (sqX st t k) = sqX st t (k + 1)) ∧ fol st t (sqX st t ((st.2.2.2.1 t) - 1)) = -1 :=
  seqX_ok h.c.1 h.dn h.sib h.nxs (n := 30) h.c.2 (fun v _ => h.fof 30 _ v)
theorem TI.sinj (h : TI st t) : ∀ j k, j < (st.2.2.2.1 t) → k < (st.2.2.2.1 t) → sqX st t j = sqX st t k → j = k := seqX_inj h.seq.1
theorem TI.ssum (h : TI st t) (f : Nat → Nat) : sumN (fun k => f (sqX st t k)) ((st.2.2.2.1 t)) = sumN f ((st.2.2.2.1 t)) := sm_perm (fun k hk => (h.seq.1 k hk).1) h.sinj f
theorem TI.ssur (h : TI st t) {i : Nat} (hi : i < (st.2.2.2.1 t)) : ∃ k, k < (st.2.2.2.1 t) ∧ sqX st t k = i := sm_surj (fun k hk => (h.seq.1 k hk).1) h.sinj hi
theorem sqX_0 : sqX st t 0 = 0 := rfl
end Ti
