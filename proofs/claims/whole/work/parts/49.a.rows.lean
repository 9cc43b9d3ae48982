/-! rows: how many terms a row is -/
def rn (A : Nat → Nat) : List Nat → Nat → Option Nat
  | [], n => some n
  | x :: l, n => if n = 0 then none else rn A l (n + A x - 1)
theorem rn_append (A : Nat → Nat) : ∀ (l1 l2 : List Nat) (n : Nat), rn A (l1 ++ l2) n = (rn A l1 n).bind (rn A l2) := by
  intro l1
  induction l1 with
  | nil => intro l2 n; rfl
  | cons x l ih =>
    intro l2 n
    simp only [List.cons_append, rn]
    by_cases c : n = 0
    · simp [c]
    · simp [c, ih]
theorem rn_add {A : Nat → Nat} : ∀ (l : List Nat) (n k m : Nat), rn A l n = some k → rn A l (n + m) = some (k + m) := by
  intro l
  induction l with
  | nil => intro n k m h; simp only [rn, Option.some.injEq] at h ⊢; omega
  | cons x l ih =>
    intro n k m h
    simp only [rn] at h ⊢
    by_cases c : n = 0
    · rw [if_pos c] at h; cases h
    · rw [if_neg c] at h
      rw [if_neg (by omega), show n + m + A x - 1 = n + A x - 1 + m by omega]
      exact ih _ _ _ h
/-- rows one behind the other -/
theorem rn_two {A : Nat → Nat} {l1 l2 : List Nat} {n m : Nat} (h1 : rn A l1 n = some 0) (h2 : rn A l2 m = some 0) : rn A (l1 ++ l2) (n + m) = some 0 := by
  have := rn_add _ _ _ m h1
  rw [rn_append, this, Option.bind_some, Nat.zero_add]
  exact h2
theorem rn_pos {A : Nat → Nat} {x : Nat} {l : List Nat} {n k : Nat} (h : rn A (x :: l) n = some k) : 0 < n ∧ rn A l (n + A x - 1) = some k := by
  simp only [rn] at h
  by_cases c : n = 0
  · rw [if_pos c] at h; cases h
  · rw [if_neg c] at h; exact ⟨by omega, h⟩
theorem rn_len {A : Nat → Nat} : ∀ (l : List Nat) (n k : Nat), rn A l n = some k → n ≤ l.length + k := by
  intro l
  induction l with
  | nil => intro n k h; simp only [rn, Option.some.injEq] at h; simp; omega
  | cons x l ih =>
    intro n k h
    obtain ⟨h1, h2⟩ := rn_pos h
    have := ih _ _ h2
    simp only [List.length_cons]
    omega
/-- from a place on: so many terms missing -/
theorem rn_drop {A : Nat → Nat} {l : List Nat} : ∀ (i n : Nat), rn A l n = some 0 → i ≤ l.length → ∃ m, rn A (l.drop i) m = some 0 ∧ (i < l.length → 0 < m) := by
  intro i n h hi
  have e : l = l.take i ++ l.drop i := (List.take_append_drop i l).symm
  rw [e, rn_append] at h
  cases h1 : rn A (l.take i) n with
  | none => rw [h1] at h; cases h
  | some m =>
    rw [h1, Option.bind_some] at h
    refine ⟨m, h, fun hl => ?_⟩
    rw [drop_cons hl] at h
    exact (rn_pos h).1
theorem rn_tl {A : Nat → Nat} {l : List Nat} : ∀ (k i ms m : Nat), l.length = i + k → rn A (l.drop i) (ms + m) = some 0 → cmp A l k ms i ∧ i ≤ tl A l k ms i ∧ tl A l k ms i ≤ l.length ∧ rn A (sl l i (tl A l k ms i)) ms = some 0 ∧ rn A (l.drop (tl A l k ms i)) m = some 0 := by
  intro k
  induction k with
  | zero =>
    intro i ms m hk h
    rw [List.drop_eq_nil_of_le (by omega)] at h
    simp only [rn, Option.some.injEq] at h
    have e1 : ms = 0 := by omega
    have e2 : m = 0 := by omega
    subst e1
    subst e2
    simp only [tl, cmp]
    rw [sl_nil (Nat.le_refl _), List.drop_eq_nil_of_le (by omega)]
    exact ⟨trivial, Nat.le_refl _, by omega, rfl, rfl⟩
  | succ k ih =>
    intro i ms m hk h
    by_cases c : ms = 0
    · subst c
      simp only [tl, cmp, if_true]
      rw [sl_nil (Nat.le_refl _)]
      exact ⟨Or.inl trivial, Nat.le_refl _, by omega, rfl, by simpa using h⟩
    · have hl : i < l.length := by omega
      have h0 := h
      rw [drop_cons hl] at h
      obtain ⟨h1, h2⟩ := rn_pos h
      obtain ⟨g1, g2, g3, g4, g5⟩ := ih (i + 1) (ms + A (l.getD i 0) - 1) m (by omega) (by rw [show ms + A (l.getD i 0) - 1 + m = ms + m + A (l.getD i 0) - 1 by omega]; exact h2)
      have e : tl A l (k + 1) ms i = tl A l k (ms + A (l.getD i 0) - 1) (i + 1) := by rw [tl, if_neg c, if_pos hl]
      rw [e]
      refine ⟨Or.inr ⟨hl, g1⟩, by omega, g3, ?_, g5⟩
      rw [sl_cons (by omega) g3]
      simp only [rn]
      rw [if_neg c]
      exact g4
/-- a row of terms: each place begins a complete one, and behind it the others are left -/
theorem rn_te {A : Nat → Nat} {l : List Nat} {i m : Nat} (h : rn A (l.drop i) (m + 1) = some 0) : i < te A l i ∧ te A l i ≤ l.length ∧ cmp A l (l.length - i) 1 i ∧ rn A (sl l i (te A l i)) 1 = some 0 ∧ rn A (l.drop (te A l i)) m = some 0 := by
  have hi : i < l.length := by
    rcases Nat.lt_or_ge i l.length with z | z
    · exact z
    · rw [List.drop_eq_nil_of_le z] at h
      simp [rn] at h
  obtain ⟨g1, g2, g3, g4, g5⟩ := rn_tl (A := A) (l := l) (l.length - i) i 1 m (by omega) (by rw [Nat.add_comm]; exact h)
  exact ⟨te_gt hi, g3, g1, g4, g5⟩
theorem rn_acm {A : Nat → Nat} {l : List Nat} {n : Nat} (h : rn A l n = some 0) : acm A l := by
  intro i hi
  obtain ⟨m, h1, h2⟩ := rn_drop i n h (by omega)
  obtain ⟨m, rfl⟩ : ∃ k, m = k + 1 := ⟨m - 1, by have := h2 hi; omega⟩
  exact (rn_te h1).2.2.1
theorem tl_app {A : Nat → Nat} {l r : List Nat} : ∀ (k ms i k2 : Nat), cmp A l k ms i → k ≤ k2 → tl A (l ++ r) k2 ms i = tl A l k ms i := by
  intro k
  induction k with
  | zero =>
    intro ms i k2 h hk
    have h : ms = 0 := h
    rw [h, tl_done, tl_done]
  | succ k ih =>
    intro ms i k2 h hk
    obtain ⟨k2, rfl⟩ : ∃ m, k2 = m + 1 := ⟨k2 - 1, by omega⟩
    by_cases c : ms = 0
    · rw [c, tl_done, tl_done]
    · rcases h with h | ⟨h1, h2⟩
      · exact absurd h c
      · have e : (l ++ r).getD i 0 = l.getD i 0 := by simp [List.getD_eq_getElem?_getD, List.getElem?_append_left h1]
        rw [tl, tl, if_neg c, if_neg c, if_pos h1, if_pos (by simp; omega), e]
        exact ih _ _ _ h2 (by omega)
theorem te_app {A : Nat → Nat} {l r : List Nat} {i : Nat} (h : cmp A l (l.length - i) 1 i) : te A (l ++ r) i = te A l i :=
  tl_app _ _ _ _ h (by simp; omega)
theorem tl_app2 {A : Nat → Nat} {l r : List Nat} : ∀ (k ms i : Nat), tl A (l ++ r) k ms (l.length + i) = l.length + tl A r k ms i := by
  intro k
  induction k with
  | zero => intro ms i; rfl
  | succ k ih =>
    intro ms i
    have e : (l ++ r).getD (l.length + i) 0 = r.getD i 0 := by simp [List.getD_eq_getElem?_getD, List.getElem?_append_right (Nat.le_add_right l.length i)]
    rw [tl, tl, e]
    by_cases c : ms = 0
    · rw [if_pos c, if_pos c]
    · rw [if_neg c, if_neg c]
      by_cases c2 : i < r.length
      · rw [if_pos c2, if_pos (by simp; omega), Nat.add_assoc, ih]
      · rw [if_neg c2, if_neg (by simp; omega)]
theorem te_app2 {A : Nat → Nat} {l r : List Nat} {i : Nat} : te A (l ++ r) (l.length + i) = l.length + te A r i := by
  unfold te
  rw [List.length_append, show l.length + r.length - (l.length + i) = r.length - i by omega]
  exact tl_app2 _ _ _
/-- other tables of arguments that agree on the row -/
theorem tl_cong {A A2 : Nat → Nat} {l : List Nat} (h : ∀ i, i < l.length → A (l.getD i 0) = A2 (l.getD i 0)) : ∀ (k ms i : Nat), tl A l k ms i = tl A2 l k ms i := by
  intro k
  induction k with
  | zero => intro ms i; rfl
  | succ k ih =>
    intro ms i
    rw [tl, tl]
    by_cases c : ms = 0
    · rw [if_pos c, if_pos c]
    · rw [if_neg c, if_neg c]
      by_cases c2 : i < l.length
      · rw [if_pos c2, if_pos c2, h i c2, ih]
      · rw [if_neg c2, if_neg c2]
theorem te_cong {A A2 : Nat → Nat} {l : List Nat} (h : ∀ i, i < l.length → A (l.getD i 0) = A2 (l.getD i 0)) (i : Nat) : te A l i = te A2 l i := tl_cong h _ _ _
theorem rn_cong {A A2 : Nat → Nat} : ∀ (l : List Nat) (n : Nat), (∀ x, x ∈ l → A x = A2 x) → rn A l n = rn A2 l n := by
  intro l
  induction l with
  | nil => intro n _; rfl
  | cons x l ih =>
    intro n h
    simp only [rn]
    rw [h x (by simp), ih _ (fun y hy => h y (by simp [hy]))]
/-- a variable replaced by a term -/
theorem rn_sbx {A : Nat → Nat} {v : Int32} {B : List Nat} (hv : ∀ x, nI x = v → A x = 0) (hB : ∀ x, nI x = v → rn A B 1 = some 0) : ∀ (l : List Nat) (n : Nat), (∀ x, x ∈ l → x < 2147483648) → rn A (sbx v B l) n = rn A l n := by
  intro l
  induction l with
  | nil => intro n _; rfl
  | cons x l ih =>
    intro n h
    by_cases c : nI x = v
    · rw [sbx_pos c, rn_append]
      simp only [rn]
      by_cases c2 : n = 0
      · rw [if_pos c2, c2]
        have hB := hB x c
        cases B with
        | nil => simp [rn] at hB
        | cons y B => simp [rn]
      · rw [if_neg c2, hv x c]
        have := rn_add B 1 0 (n - 1) (hB x c)
        rw [show 1 + (n - 1) = n by omega] at this
        rw [this, Option.bind_some, Nat.zero_add, ih _ (fun y hy => h y (by simp [hy]))]
        rfl
    · rw [sbx_neg c]
      simp only [rn]
      rw [ih _ (fun y hy => h y (by simp [hy]))]
/-! walking along a pattern; the places within a term -/
def wlk (A : Nat → Nat) (l : List Nat) : List Nat → Nat → Nat
  | [], i => i
  | x :: p, i => wlk A l p (if x = 99 then te A l i else i + 1)
def hix : List Nat → Nat → Option Nat
  | [], _ => none
  | x :: p, k => if x = 99 then (if k = 0 then some 0 else (hix p (k - 1)).map (· + 1)) else (hix p k).map (· + 1)
theorem loc_hix {A : Nat → Nat} {l : List Nat} : ∀ (p : List Nat) (k i : Nat), loc A l p k i = (hix p k).map (fun j => wlk A l (p.take j) i) := by
  intro p
  induction p with
  | nil => intro k i; rfl
  | cons x p ih =>
    intro k i
    simp only [loc, hix]
    by_cases c : x = 99
    · rw [if_pos c, if_pos c]
      by_cases c2 : k = 0
      · rw [if_pos c2, if_pos c2]; rfl
      · rw [if_neg c2, if_neg c2, ih, Option.map_map]
        congr 1
        funext j
        simp [wlk, c]
    · rw [if_neg c, if_neg c, ih, Option.map_map]
      congr 1
      funext j
      simp [wlk, c]
theorem hix_lt : ∀ (p : List Nat) (k j : Nat), hix p k = some j → j < p.length ∧ p.getD j 0 = 99 := by
  intro p
  induction p with
  | nil => intro k j h; cases h
  | cons x p ih =>
    intro k j h
    simp only [hix] at h
    by_cases c : x = 99
    · rw [if_pos c] at h
      by_cases c2 : k = 0
      · rw [if_pos c2] at h; cases h; exact ⟨by simp, by simpa using c⟩
      · rw [if_neg c2] at h
        obtain ⟨y, h1, h2⟩ := Option.map_eq_some_iff.mp h
        have := ih _ _ h1
        subst h2
        exact ⟨by simp only [List.length_cons]; omega, by simpa using this.2⟩
    · rw [if_neg c] at h
      obtain ⟨y, h1, h2⟩ := Option.map_eq_some_iff.mp h
      have := ih _ _ h1
      subst h2
      exact ⟨by simp only [List.length_cons]; omega, by simpa using this.2⟩
theorem hix_none : ∀ (p : List Nat) (k : Nat), hix p k = none ↔ hol p ≤ k := by
  intro p k
  have h := loc_none (A := fun _ => 0) (l := []) p k 0
  rw [loc_hix, Option.map_eq_none_iff] at h
  exact h
/-- the holes in their order: each hole has its number -/
theorem hix_all : ∀ (p : List Nat) (j : Nat), j < p.length → p.getD j 0 = 99 → hix p (hol (p.take j)) = some j := by
  intro p
  induction p with
  | nil => intro j h; simp at h
  | cons x p ih =>
    intro j h1 h2
    cases j with
    | zero =>
      have : x = 99 := by simpa using h2
      simp [hix, hol, this]
    | succ j =>
      have := ih j (by simpa using h1) (by simpa using h2)
      simp only [List.take_succ_cons, hol, hix]
      by_cases c : x = 99
      · rw [if_pos c, if_pos c, if_neg (by omega), show 1 + hol (p.take j) - 1 = hol (p.take j) by omega, this]; rfl
      · rw [if_neg c, if_neg c, Nat.zero_add, this]; rfl
theorem hol_take_le : ∀ (p : List Nat) (j : Nat), hol (p.take j) ≤ hol p := by
  intro p
  induction p with
  | nil => intro j; simp [hol]
  | cons x p ih =>
    intro j
    cases j with
    | zero => simp [hol]
    | succ j => simp only [List.take_succ_cons, hol]; have := ih j; omega
theorem hol_mono : ∀ (p : List Nat) (i j : Nat), i ≤ j → hol (p.take i) ≤ hol (p.take j) := by
  intro p i j h
  have : p.take i = (p.take j).take i := by rw [List.take_take, Nat.min_eq_left h]
  rw [this]
  exact hol_take_le _ _
theorem hix_hol : ∀ (p : List Nat) (k j : Nat), hix p k = some j → hol (p.take j) = k := by
  intro p
  induction p with
  | nil => intro k j h; cases h
  | cons x p ih =>
    intro k j h
    simp only [hix] at h
    by_cases c : x = 99
    · rw [if_pos c] at h
      by_cases c2 : k = 0
      · rw [if_pos c2] at h; cases h; simp [hol, c2]
      · rw [if_neg c2] at h
        obtain ⟨y, h1, h2⟩ := Option.map_eq_some_iff.mp h
        have := ih _ _ h1
        subst h2
        simp only [List.take_succ_cons, hol, if_pos c, this]
        omega
    · rw [if_neg c] at h
      obtain ⟨y, h1, h2⟩ := Option.map_eq_some_iff.mp h
      have := ih _ _ h1
      subst h2
      simp only [List.take_succ_cons, hol, if_neg c, this]
      omega
theorem wlk_append {A : Nat → Nat} {l : List Nat} : ∀ (p1 p2 : List Nat) (i : Nat), wlk A l (p1 ++ p2) i = wlk A l p2 (wlk A l p1 i) := by
  intro p1
  induction p1 with
  | nil => intro p2 i; rfl
  | cons x p ih => intro p2 i; simp only [List.cons_append, wlk, ih]
theorem take_succ_getD {p : List Nat} {j : Nat} (h : j < p.length) : p.take (j + 1) = p.take j ++ [p.getD j 0] := by
  rw [List.take_add_one]
  simp [List.getD_eq_getElem?_getD, h]
theorem wlk_succ {A : Nat → Nat} {l p : List Nat} {i j : Nat} (h : j < p.length) : wlk A l (p.take (j + 1)) i = if p.getD j 0 = 99 then te A l (wlk A l (p.take j) i) else wlk A l (p.take j) i + 1 := by
  rw [take_succ_getD h, wlk_append]
  rfl
theorem mtc_le {A : Nat → Nat} {l : List Nat} : ∀ (p : List Nat) (i : Nat), mtc A l p i → i ≤ l.length := by
  intro p i h
  cases p with
  | nil => exact h
  | cons x p => exact Nat.le_of_lt h.1
theorem mtc_app {A : Nat → Nat} {l : List Nat} : ∀ (p1 p2 : List Nat) (i : Nat), mtc A l (p1 ++ p2) i ↔ (mtc A l p1 i ∧ mtc A l p2 (wlk A l p1 i)) := by
  intro p1
  induction p1 with
  | nil => intro p2 i; exact ⟨fun h => ⟨mtc_le _ _ h, h⟩, fun h => h.2⟩
  | cons x p ih =>
    intro p2 i
    simp only [List.cons_append, mtc, wlk]
    by_cases c : x = 99
    · simp only [c, if_true, ih, and_assoc]
    · simp only [c, if_false, ih, and_assoc]
/-- what the row has where the pattern has something -/
theorem mtc_at {A : Nat → Nat} {l p : List Nat} {i j : Nat} (h : mtc A l p i) (hj : j < p.length) : wlk A l (p.take j) i < l.length ∧ (p.getD j 0 ≠ 99 → l.getD (wlk A l (p.take j) i) 0 = p.getD j 0) := by
  have e : p = p.take j ++ (p.getD j 0 :: p.drop (j + 1)) := by rw [← drop_cons hj, List.take_append_drop]
  rw [e, mtc_app] at h
  obtain ⟨h1, h2, h3⟩ := h
  refine ⟨by simpa using h2, fun hx => ?_⟩
  rw [if_neg hx] at h3
  simpa using h3.1
theorem mtc_take {A : Nat → Nat} {l p : List Nat} {i j : Nat} (h : mtc A l p i) : mtc A l (p.take j) i := by
  rw [← List.take_append_drop j p, mtc_app] at h
  exact h.1
/-- terms one behind the other -/
def tes (A : Nat → Nat) (l : List Nat) : Nat → Nat → Nat
  | 0, i => i
  | n + 1, i => tes A l n (te A l i)
theorem tes_succ {A : Nat → Nat} {l : List Nat} : ∀ (n i : Nat), tes A l (n + 1) i = te A l (tes A l n i) := by
  intro n
  induction n with
  | zero => intro i; rfl
  | succ n ih => intro i; rw [tes, ih]; rfl
theorem rn_tes {A : Nat → Nat} {l : List Nat} : ∀ (n m i : Nat), i ≤ l.length → rn A (l.drop i) (n + m) = some 0 → rn A (l.drop (tes A l n i)) m = some 0 ∧ tes A l n i ≤ l.length ∧ i + n ≤ tes A l n i := by
  intro n
  induction n with
  | zero => intro m i hi h; rw [Nat.zero_add] at h; exact ⟨h, hi, Nat.le_refl _⟩
  | succ n ih =>
    intro m i hi h
    obtain ⟨h1, h2, h3, h4, h5⟩ := rn_te (A := A) (l := l) (i := i) (m := n + m) (by rw [show n + m + 1 = n + 1 + m by omega]; exact h)
    obtain ⟨g1, g2, g3⟩ := ih m (te A l i) h2 h5
    exact ⟨g1, g2, by rw [tes]; omega⟩
theorem tl_plus {A : Nat → Nat} {l : List Nat} : ∀ (k i a b m : Nat), l.length = i + k → rn A (l.drop i) (a + b + m) = some 0 → tl A l k (a + b) i = tl A l (l.length - tl A l k a i) b (tl A l k a i) := by
  intro k
  induction k with
  | zero =>
    intro i a b m hk h
    rw [List.drop_eq_nil_of_le (by omega)] at h
    simp only [rn, Option.some.injEq] at h
    have e1 : a = 0 := by omega
    have e2 : b = 0 := by omega
    subst e1
    subst e2
    rw [tl_done, tl_done]
  | succ k ih =>
    intro i a b m hk h
    by_cases c : a = 0
    · subst c
      rw [tl_done, Nat.zero_add, show l.length - i = k + 1 by omega]
    · have hl : i < l.length := by omega
      rw [drop_cons hl] at h
      obtain ⟨h1, h2⟩ := rn_pos h
      rw [tl, if_neg (by omega), if_pos hl]
      have e : tl A l (k + 1) a i = tl A l k (a + A (l.getD i 0) - 1) (i + 1) := by rw [tl, if_neg c, if_pos hl]
      rw [e, show a + b + A (l.getD i 0) - 1 = a + A (l.getD i 0) - 1 + b by omega]
      exact ih (i + 1) _ b m (by omega) (by rw [show a + A (l.getD i 0) - 1 + b + m = a + b + m + A (l.getD i 0) - 1 by omega]; exact h2)
theorem tl_tes {A : Nat → Nat} {l : List Nat} : ∀ (n i m : Nat), i ≤ l.length → rn A (l.drop i) (n + m) = some 0 → tl A l (l.length - i) n i = tes A l n i := by
  intro n
  induction n with
  | zero => intro i m hi h; rw [tl_done]; rfl
  | succ n ih =>
    intro i m hi h
    have e := tl_plus (A := A) (l := l) (l.length - i) i 1 n m (by omega) (by rw [show 1 + n + m = n + 1 + m by omega]; exact h)
    rw [show n + 1 = 1 + n by omega, e, show 1 + n = n + 1 by omega]
    obtain ⟨h1, h2, h3, h4, h5⟩ := rn_te (A := A) (l := l) (i := i) (m := n + m) (by rw [show n + m + 1 = n + 1 + m by omega]; exact h)
    rw [tes]
    exact ih (te A l i) m h2 h5
/-- behind a symbol come its arguments -/
theorem te_args {A : Nat → Nat} {l : List Nat} {i m : Nat} (h : rn A (l.drop i) (m + 1) = some 0) : te A l i = tes A l (A (l.getD i 0)) (i + 1) ∧ i < l.length ∧ rn A (l.drop (i + 1)) (A (l.getD i 0) + m) = some 0 := by
  obtain ⟨h1, h2, h3, h4, h5⟩ := rn_te h
  have hl : i < l.length := by omega
  have h6 := h
  rw [drop_cons hl] at h6
  obtain ⟨h7, h8⟩ := rn_pos h6
  rw [show m + 1 + A (l.getD i 0) - 1 = A (l.getD i 0) + m by omega] at h8
  refine ⟨?_, hl, h8⟩
  rw [← tl_tes _ _ m (by omega) h8]
  unfold te
  obtain ⟨k, hk⟩ : ∃ k, l.length - i = k + 1 := ⟨l.length - i - 1, by omega⟩
  rw [hk, tl, if_neg (by omega), if_pos hl, show l.length - (i + 1) = k by omega, show 1 + A (l.getD i 0) - 1 = A (l.getD i 0) by omega]
def chd (A : Nat → Nat) (l : List Nat) (a d : Nat) : Nat := tes A l (d - 1) (a + 1)
theorem chd_one {A : Nat → Nat} {l : List Nat} {a : Nat} : chd A l a 1 = a + 1 := rfl
theorem chd_succ {A : Nat → Nat} {l : List Nat} {a d : Nat} (h : 1 ≤ d) : chd A l a (d + 1) = te A l (chd A l a d) := by
  unfold chd
  rw [show d + 1 - 1 = d - 1 + 1 by omega, tes_succ]
theorem rn_chd {A : Nat → Nat} {l : List Nat} {a m d : Nat} (h : rn A (l.drop a) (m + 1) = some 0) (h1 : 1 ≤ d) (h2 : d ≤ A (l.getD a 0)) : rn A (l.drop (chd A l a d)) (A (l.getD a 0) - d + m + 1) = some 0 ∧ a + d ≤ chd A l a d ∧ chd A l a d < l.length := by
  obtain ⟨g1, g2, g3⟩ := te_args h
  have := rn_tes (A := A) (l := l) (d - 1) (A (l.getD a 0) - d + m + 1) (a + 1) (by omega) (by rw [show d - 1 + (A (l.getD a 0) - d + m + 1) = A (l.getD a 0) + m by omega]; exact g3)
  obtain ⟨e1, e2, e3⟩ := this
  obtain ⟨e4, e5, _⟩ := rn_te e1
  have e6 : chd A l a d = tes A l (d - 1) (a + 1) := rfl
  rw [e6]
  exact ⟨e1, by omega, by omega⟩
theorem te_chd {A : Nat → Nat} {l : List Nat} {a m : Nat} (h : rn A (l.drop a) (m + 1) = some 0) (h2 : 1 ≤ A (l.getD a 0)) : te A l a = te A l (chd A l a (A (l.getD a 0))) := by
  rw [(te_args h).1]
  unfold chd
  rw [← tes_succ, show A (l.getD a 0) - 1 + 1 = A (l.getD a 0) by omega]
/-- the walk takes terms to terms -/
theorem wlk_tl {A : Nat → Nat} {l p : List Nat} {i0 : Nat} (h99 : A 99 = 0) (hm : mtc A l p i0) : ∀ (k a ms m m2 : Nat), p.length = a + k → rn A (p.drop a) (ms + m) = some 0 → rn A (l.drop (wlk A l (p.take a) i0)) (ms + m2) = some 0 → wlk A l (p.take (tl A p k ms a)) i0 = tl A l (l.length - wlk A l (p.take a) i0) ms (wlk A l (p.take a) i0) := by
  intro k
  induction k with
  | zero =>
    intro a ms m m2 hk h1 h2
    rw [List.drop_eq_nil_of_le (by omega)] at h1
    simp only [rn, Option.some.injEq] at h1
    have e1 : ms = 0 := by omega
    subst e1
    rw [tl_done, tl_done]
  | succ k ih =>
    intro a ms m m2 hk h1 h2
    by_cases c : ms = 0
    · subst c; rw [tl_done, tl_done]
    · have ha : a < p.length := by omega
      obtain ⟨q1, q2⟩ := mtc_at hm ha
      have hs := wlk_succ (A := A) (l := l) (i := i0) ha
      rw [tl, if_neg c, if_pos ha]
      rw [drop_cons ha] at h1
      obtain ⟨h3, h4⟩ := rn_pos h1
      by_cases cx : p.getD a 0 = 99
      · rw [if_pos cx] at hs
        rw [cx, h99] at h4 ⊢
        obtain ⟨t1, t2, t3, t4, t5⟩ := rn_te (A := A) (l := l) (i := wlk A l (p.take a) i0) (m := ms - 1 + m2) (by rw [show ms - 1 + m2 + 1 = ms + m2 by omega]; exact h2)
        have := ih (a + 1) (ms - 1) m m2 (by omega) (by rw [show ms - 1 + m = ms + m + 0 - 1 by omega]; exact h4) (by rw [hs]; exact t5)
        rw [show ms + 0 - 1 = ms - 1 by omega, this, hs]
        have tp := tl_plus (A := A) (l := l) (l.length - wlk A l (p.take a) i0) (wlk A l (p.take a) i0) 1 (ms - 1) m2 (by omega) (by rw [show 1 + (ms - 1) + m2 = ms + m2 by omega]; exact h2)
        rw [show 1 + (ms - 1) = ms by omega] at tp
        rw [tp]
        rfl
      · rw [if_neg cx] at hs
        have q3 := q2 cx
        rw [drop_cons q1] at h2
        obtain ⟨h5, h6⟩ := rn_pos h2
        rw [q3] at h6
        have := ih (a + 1) (ms + A (p.getD a 0) - 1) m m2 (by omega) (by rw [show ms + A (p.getD a 0) - 1 + m = ms + m + A (p.getD a 0) - 1 by omega]; exact h4) (by rw [hs, show ms + A (p.getD a 0) - 1 + m2 = ms + m2 + A (p.getD a 0) - 1 by omega]; exact h6)
        rw [this, hs]
        obtain ⟨k2, hk2⟩ : ∃ k2, l.length - wlk A l (p.take a) i0 = k2 + 1 := ⟨l.length - wlk A l (p.take a) i0 - 1, by omega⟩
        rw [hk2, tl, if_neg c, if_pos q1, q3, show l.length - (wlk A l (p.take a) i0 + 1) = k2 by omega]
theorem wlk_te {A : Nat → Nat} {l p : List Nat} {i0 a m m2 : Nat} (h99 : A 99 = 0) (hm : mtc A l p i0) (h1 : rn A (p.drop a) (m + 1) = some 0) (h2 : rn A (l.drop (wlk A l (p.take a) i0)) (m2 + 1) = some 0) : wlk A l (p.take (te A p a)) i0 = te A l (wlk A l (p.take a) i0) := by
  obtain ⟨t1, t2, _⟩ := rn_te h1
  exact wlk_tl h99 hm (p.length - a) a 1 m m2 (by omega) (by rw [Nat.add_comm]; exact h1) (by rw [Nat.add_comm]; exact h2)
/-! paths within a term: which argument, of which -/
def vp (A : Nat → Nat) (p : List Nat) : Nat → List Nat → Nat → Prop
  | a, [], j => a = j
  | a, d :: ds, j => 1 ≤ d ∧ d ≤ A (p.getD a 0) ∧ vp A p (chd A p a d) ds j
theorem vpt_snoc {A : Nat → Nat} {p : List Nat} : ∀ (ds : List Nat) (a b d : Nat), vp A p a ds b → 1 ≤ d → d ≤ A (p.getD b 0) → vp A p a (ds ++ [d]) (chd A p b d) := by
  intro ds
  induction ds with
  | nil => intro a b d h h1 h2; subst h; exact ⟨h1, h2, rfl⟩
  | cons x ds ih => intro a b d h h1 h2; exact ⟨h.1, h.2.1, ih _ _ _ h.2.2 h1 h2⟩
/-- the term at a path's end lies within -/
theorem vpt_in {A : Nat → Nat} {p : List Nat} : ∀ (ds : List Nat) (a j m : Nat), rn A (p.drop a) (m + 1) = some 0 → vp A p a ds j → a ≤ j ∧ j < te A p a ∧ a + ds.length ≤ j ∧ ∃ m2, rn A (p.drop j) (m2 + 1) = some 0 := by
  intro ds
  induction ds with
  | nil =>
    intro a j m h hv
    have hv : a = j := hv
    subst hv
    exact ⟨Nat.le_refl _, (rn_te h).1, Nat.le_refl _, m, h⟩
  | cons d ds ih =>
    intro a j m h hv
    obtain ⟨h1, h2, h3⟩ := hv
    obtain ⟨r1, r2, r3⟩ := rn_chd h h1 h2
    obtain ⟨g1, g2, g3, g4⟩ := ih _ _ _ r1 h3
    refine ⟨by omega, ?_, by simp only [List.length_cons]; omega, g4⟩
    have : ∀ t, d + t ≤ A (p.getD a 0) → te A p (chd A p a d) ≤ te A p (chd A p a (d + t)) := by
      intro t
      induction t with
      | zero => intro _; exact Nat.le_refl _
      | succ t iht =>
        intro ht
        have i1 := iht (by omega)
        obtain ⟨r4, r5, r6⟩ := rn_chd h (show 1 ≤ d + t + 1 by omega) ht
        have i2 := (rn_te r4).1
        have i3 := chd_succ (A := A) (l := p) (a := a) (show 1 ≤ d + t by omega)
        rw [show d + (t + 1) = d + t + 1 by omega]
        omega
    have i4 := this (A (p.getD a 0) - d) (by omega)
    rw [show d + (A (p.getD a 0) - d) = A (p.getD a 0) by omega, ← te_chd h (by omega)] at i4
    omega
/-- where the path's argument ends, and the ones before it -/
theorem vpt_bef {A : Nat → Nat} {p : List Nat} {a m d d2 : Nat} (h : rn A (p.drop a) (m + 1) = some 0) (h1 : 1 ≤ d) (h2 : d < d2) (h3 : d2 ≤ A (p.getD a 0)) : te A p (chd A p a d) ≤ chd A p a d2 := by
  obtain ⟨t, rfl⟩ : ∃ t, d2 = d + 1 + t := ⟨d2 - d - 1, by omega⟩
  rw [← chd_succ h1]
  clear h2
  induction t with
  | zero => exact Nat.le_refl _
  | succ t ih =>
    have i1 := ih (by omega)
    obtain ⟨r4, r5, r6⟩ := rn_chd h (show 1 ≤ d + 1 + t by omega) (by omega)
    have i2 := (rn_te r4).1
    have i3 := chd_succ (A := A) (l := p) (a := a) (show 1 ≤ d + 1 + t by omega)
    rw [show d + 1 + (t + 1) = d + 1 + t + 1 by omega]
    omega
/-- the way that a path takes in a row that has what the pattern says -/
def fol (A : Nat → Nat) (l : List Nat) : List Nat → Nat → Nat
  | [], i => i
  | d :: ds, i => fol A l ds (chd A l i d)
theorem vpt_fol {A : Nat → Nat} {l p : List Nat} {i0 : Nat} (h99 : A 99 = 0) (hm : mtc A l p i0) : ∀ (ds : List Nat) (a j m m2 : Nat), rn A (p.drop a) (m + 1) = some 0 → rn A (l.drop (wlk A l (p.take a) i0)) (m2 + 1) = some 0 → vp A p a ds j → fol A l ds (wlk A l (p.take a) i0) = wlk A l (p.take j) i0 ∧ ∃ m3, rn A (l.drop (wlk A l (p.take j) i0)) (m3 + 1) = some 0 := by
  intro ds
  induction ds with
  | nil =>
    intro a j m m2 h1 h2 hv
    have hv : a = j := hv
    subst hv
    exact ⟨rfl, m2, h2⟩
  | cons d ds ih =>
    intro a j m m2 h1 h2 hv
    obtain ⟨v1, v2, v3⟩ := hv
    obtain ⟨t1, t2, t3⟩ := te_args h1
    obtain ⟨q1, q2⟩ := mtc_at hm t2
    have cx : p.getD a 0 ≠ 99 := fun z => by rw [z, h99] at v2; omega
    have q3 := q2 cx
    have hs := wlk_succ (A := A) (l := l) (i := i0) t2
    rw [if_neg cx] at hs
    have hc : ∀ t, t + 1 ≤ A (p.getD a 0) → wlk A l (p.take (chd A p a (t + 1))) i0 = chd A l (wlk A l (p.take a) i0) (t + 1) := by
      intro t
      induction t with
      | zero => intro _; rw [chd_one, chd_one]; exact hs
      | succ t iht =>
        intro ht
        have i1 := iht (by omega)
        rw [chd_succ (d := t + 1) (by omega), chd_succ (d := t + 1) (by omega), ← i1]
        obtain ⟨r1, _⟩ := rn_chd h1 (show 1 ≤ t + 1 by omega) (by omega)
        obtain ⟨r4, _⟩ := rn_chd h2 (show 1 ≤ t + 1 by omega) (by rw [q3]; omega)
        rw [← i1] at r4
        exact wlk_te h99 hm r1 r4
    have hd := hc (d - 1) (by omega)
    rw [show d - 1 + 1 = d by omega] at hd
    obtain ⟨r1, _⟩ := rn_chd h1 v1 v2
    obtain ⟨r4, _⟩ := rn_chd h2 v1 (by rw [q3]; omega)
    have := ih (chd A p a d) j _ _ r1 (by rw [hd]; exact r4) v3
    rw [hd] at this
    exact this
/-- the reference's way: a stack of (how many arguments, which) -/
def bump : List (Nat × Nat) → List (Nat × Nat)
  | [] => []
  | (n, w) :: st => if w = n then bump st else (n, w + 1) :: st
def stp (A : Nat → Nat) (x : Nat) (st : List (Nat × Nat)) : List (Nat × Nat) := if 0 < A x then (A x, 1) :: st else bump st
def stk (A : Nat → Nat) (p : List Nat) : Nat → List (Nat × Nat)
  | 0 => []
  | i + 1 => stp A (p.getD i 0) (stk A p i)
def sv (A : Nat → Nat) (p : List Nat) : List (Nat × Nat) → Nat → Prop
  | [], i => i = 0
  | (n, w) :: st, i => ∃ a, sv A p st a ∧ n = A (p.getD a 0) ∧ 1 ≤ w ∧ w ≤ n ∧ i = chd A p a w
theorem sv_vp {A : Nat → Nat} {p : List Nat} : ∀ (st : List (Nat × Nat)) (i : Nat), sv A p st i → vp A p 0 (st.map Prod.snd).reverse i := by
  intro st
  induction st with
  | nil => intro i h; exact (show i = 0 from h).symm
  | cons x st ih =>
    intro i h
    obtain ⟨n, w⟩ := x
    obtain ⟨a, h1, h2, h3, h4, h5⟩ := h
    subst h5
    simp only [List.map_cons, List.reverse_cons]
    exact vpt_snoc _ _ _ _ (ih a h1) h3 (by omega)
theorem sv_bump {A : Nat → Nat} {p : List Nat} (hp : rn A p 1 = some 0) : ∀ (st : List (Nat × Nat)) (i b : Nat), sv A p st i → te A p i = b → b < p.length → sv A p (bump st) b := by
  have h0 : rn A (p.drop 0) (0 + 1) = some 0 := by simpa using hp
  intro st
  induction st with
  | nil =>
    intro i b h h1 h2
    have h : i = 0 := h
    subst h
    obtain ⟨t1, t2, t3, t4, t5⟩ := rn_te h0
    have h5 := rn_len _ _ _ t5
    rw [h1] at t5
    rw [drop_cons h2] at t5
    have := (rn_pos t5).1
    omega
  | cons x st ih =>
    intro i b h h1 h2
    obtain ⟨n, w⟩ := x
    obtain ⟨a, g1, g2, g3, g4, g5⟩ := h
    simp only [bump]
    by_cases c : w = n
    · rw [if_pos c]
      obtain ⟨_, _, _, m2, r⟩ := vpt_in _ _ _ _ h0 (sv_vp _ _ g1)
      refine ih a b g1 ?_ h2
      rw [te_chd r (by omega), ← g2, ← c, ← g5, h1]
    · rw [if_neg c]
      exact ⟨a, g1, g2, by omega, by omega, by rw [chd_succ g3, ← g5, h1]⟩
theorem sv_stk {A : Nat → Nat} {p : List Nat} (hp : rn A p 1 = some 0) : ∀ i, i < p.length → sv A p (stk A p i) i := by
  have h0 : rn A (p.drop 0) (0 + 1) = some 0 := by simpa using hp
  intro i
  induction i with
  | zero => intro _; exact rfl
  | succ i ih =>
    intro hi
    have g := ih (by omega)
    simp only [stk, stp]
    by_cases c : 0 < A (p.getD i 0)
    · rw [if_pos c]
      exact ⟨i, g, rfl, Nat.le_refl _, c, rfl⟩
    · rw [if_neg c]
      obtain ⟨_, _, _, m2, r⟩ := vpt_in _ _ _ _ h0 (sv_vp _ _ g)
      have := (te_args r).1
      rw [show A (p.getD i 0) = 0 by omega] at this
      exact sv_bump hp _ i (i + 1) g this hi
/-- the digits of a place -/
def pds (A : Nat → Nat) (p : List Nat) (j : Nat) : List Nat := ((stk A p j).map Prod.snd).reverse
theorem pds_vp {A : Nat → Nat} {p : List Nat} {j : Nat} (hp : rn A p 1 = some 0) (hj : j < p.length) : vp A p 0 (pds A p j) j := sv_vp _ _ (sv_stk hp j hj)
def plv (ds : List Nat) : Nat := ds.foldl (fun v d => 10 * v + d) 0
theorem vpt_dig {A : Nat → Nat} {p : List Nat} (hA : ∀ x, A x ≤ 3) : ∀ (ds : List Nat) (a j : Nat), vp A p a ds j → ∀ d, d ∈ ds → 1 ≤ d ∧ d ≤ 3 := by
  intro ds
  induction ds with
  | nil => intro a j _ d hd; cases hd
  | cons x ds ih =>
    intro a j h d hd
    obtain ⟨h1, h2, h3⟩ := h
    rcases List.mem_cons.mp hd with e | e
    · subst e; exact ⟨h1, Nat.le_trans h2 (hA _)⟩
    · exact ih _ _ h3 d e
theorem plv_snoc (ds : List Nat) (d : Nat) : plv (ds ++ [d]) = 10 * plv ds + d := by simp [plv]
theorem foldl_lt : ∀ (ds : List Nat) (v n : Nat), (∀ d, d ∈ ds → 1 ≤ d ∧ d ≤ 3) → v < 10 ^ n → ds.foldl (fun v d => 10 * v + d) v < 10 ^ (n + ds.length) := by
  intro ds
  induction ds with
  | nil => intro v n _ h; exact h
  | cons d ds ih =>
    intro v n h hv
    have h2 := h d (by simp)
    have := ih (10 * v + d) (n + 1) (fun x hx => h x (by simp [hx])) (by rw [Nat.pow_succ]; omega)
    rw [show n + (d :: ds).length = n + 1 + ds.length by simp only [List.length_cons]; omega]
    exact this
theorem plv_lt (ds : List Nat) (h : ∀ d, d ∈ ds → 1 ≤ d ∧ d ≤ 3) : plv ds < 10 ^ ds.length := by
  have := foldl_lt ds 0 0 h (by decide)
  simpa [plv] using this
theorem plv_pos {ds : List Nat} (h : ∀ d, d ∈ ds → 1 ≤ d ∧ d ≤ 3) (h0 : ds ≠ []) : 0 < plv ds := by
  have e := List.dropLast_concat_getLast h0
  have h2 := h (ds.getLast h0) (List.getLast_mem h0)
  rw [← e, plv_snoc]
  omega
