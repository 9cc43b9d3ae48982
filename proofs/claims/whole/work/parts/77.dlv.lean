/-! NarrowSolver$Solver: what it holds; deliver. P: the addresses of the problems: 0..39 the row's slots, 40..69 those of the solutions, 70 the current one, 71 the draft -/
def psh (H : ah_H) (a : Nat) : Prop := ∃ i1 i2 i3 s f, H.1 a = some (.inr (2, [.ref (a + 1), .int i1, .int i2, .int i3])) ∧ H.1 (a + 1) = some (.inr (1, [.ref (a + 2), .int s])) ∧ H.1 (a + 2) = some (.inl (0, 300, .inl f))
def prbk (H : ah_H) (a : Nat) (q : mP) : Prop := H.1 a = some (.inr (2, [.ref (a + 1), .int (nI q.2.2.1), .int (nI q.1.length), .int (nI q.2.2.2)])) ∧ ∃ g, nmb H (a + 1) 300 g (q.1 ++ q.2.1).length ∧ rowl (q.1 ++ q.2.1) g ∧ (q.1 ++ q.2.1).length ≤ 300
def solk (H : ah_H) (a : Nat) (z : List Nat) : Prop := (∃ i1 i3, H.1 a = some (.inr (2, [.ref (a + 1), .int i1, .int (nI 0), .int i3]))) ∧ ∃ g, nmb H (a + 1) 300 g z.length ∧ rowl z g ∧ z.length ≤ 300
def cP (H : ah_H) (x : Nat) (P : Nat → Option Nat) : Prop := (∀ i j a b, P i = some a → P j = some b → i ≠ j → a + 2 < b ∨ b + 2 < a) ∧ ∀ i a, P i = some a → (x + 22 < a ∧ (a < x + 27 ∨ x + 236 ≤ a)) ∧ a + 2 < H.2.1 ∧ psh H a
def cR (H : ah_H) (x : Nat) (P : Nat → Option Nat) (fw : Nat) (w : List mP) : Prop := ring H (x + 16) 40 (fun i => if i < 40 then P i else none) fw w.length ∧ fw < 40 ∧ w.length ≤ 40 ∧ ∀ i, i < w.length → ∃ a, P ((fw + i) % 40) = some a ∧ prbk H a (wat w i)
def cZ (H : ah_H) (x : Nat) (P : Nat → Option Nat) (z : List (List Nat)) : Prop := ring H (x + 18) 30 (fun i => if i < 30 then P (40 + i) else none) 0 z.length ∧ z.length ≤ 30 ∧ ∀ i, i < z.length → ∃ a, P (40 + i) = some a ∧ solk H a (z.getD i [])
def cS (G : ah_H) (x : Nat) (P : Nat → Option Nat) (c p : Nat) (y : rS) (fw : Nat) (v : sV) : Prop := P 70 = some c ∧ P 71 = some p ∧ cP G x P ∧ G = ov G x c p y ∧ cR G x P fw v.1 ∧ cZ G x P v.2.1 ∧ (y.1 9 = v.2.2.1 ∧ y.1 10 = v.2.2.2.1 ∧ y.1 11 = v.2.2.2.2.1 ∧ y.1 12 = v.2.2.2.2.2) ∧ (∃ B, bd y B) ∧ x + 236 ≤ G.2.1
theorem ov_mk {G : ah_H} {x c p : Nat} {y : rS} (h1 : G.1 (x + 15) = some (.inr (6, of6 x c p y))) (h2 : G.1 (x + 20) = some (.inr (1, [.ref (x + 21), .int (y.1 30)]))) (h3 : G.1 (x + 21) = some (.inl (0, 4, .inl (y.2.1 0)))) (h4 : G.1 (x + 22) = some (.inl (0, 10, .inl (y.2.1 1)))) (h5 : G.1 p = some (.inr (2, [.ref (p + 1), .int (y.1 20), .int (y.1 21), .int (y.1 22)]))) (h6 : G.1 (p + 1) = some (.inr (1, [.ref (p + 2), .int (y.1 31)]))) (h7 : G.1 (p + 2) = some (.inl (0, 300, .inl (y.2.1 2)))) : G = ov G x c p y := by
  have : G.1 = (ov G x c p y).1 := by
    funext a
    show G.1 a = if a = x + 15 then _ else _
    by_cases e1 : a = x + 15
    · rw [if_pos e1, e1, h1]
    · rw [if_neg e1]
      by_cases e2 : a = x + 20
      · rw [if_pos e2, e2, h2]
      · rw [if_neg e2]
        by_cases e3 : a = x + 21
        · rw [if_pos e3, e3, h3]
        · rw [if_neg e3]
          by_cases e4 : a = x + 22
          · rw [if_pos e4, e4, h4]
          · rw [if_neg e4]
            by_cases e5 : a = p
            · rw [if_pos e5, e5, h5]
            · rw [if_neg e5]
              by_cases e6 : a = p + 1
              · rw [if_pos e6, e6, h6]
              · rw [if_neg e6]
                by_cases e7 : a = p + 2
                · rw [if_pos e7, e7, h7]
                · rw [if_neg e7]
  show (G.1, G.2) = ((ov G x c p y).1, G.2)
  rw [← this]
/-- the same cells -/
def sam (G G2 : ah_H) (a : Nat) : Prop := G2.1 a = G.1 a ∧ G2.1 (a + 1) = G.1 (a + 1) ∧ G2.1 (a + 2) = G.1 (a + 2)
theorem psh_sam {G G2 : ah_H} {a : Nat} (h : sam G G2 a) (hp : psh G a) : psh G2 a := by
  obtain ⟨i1, i2, i3, s, f, h1, h2, h3⟩ := hp
  exact ⟨i1, i2, i3, s, f, by rw [h.1]; exact h1, by rw [h.2.1]; exact h2, by rw [h.2.2]; exact h3⟩
theorem prbk_sam {G G2 : ah_H} {a : Nat} {q : mP} (h : sam G G2 a) (hp : prbk G a q) : prbk G2 a q := by
  obtain ⟨h1, g, h2, h3, h4⟩ := hp
  exact ⟨by rw [h.1]; exact h1, g, ⟨by rw [h.2.1]; exact h2.1, by rw [show a + 1 + 1 = a + 2 from rfl, h.2.2]; exact h2.2⟩, h3, h4⟩
theorem solk_sam {G G2 : ah_H} {a : Nat} {z : List Nat} (h : sam G G2 a) (hp : solk G a z) : solk G2 a z := by
  obtain ⟨⟨i1, i3, h1⟩, g, h2, h3, h4⟩ := hp
  exact ⟨⟨i1, i3, by rw [h.1]; exact h1⟩, g, ⟨by rw [h.2.1]; exact h2.1, by rw [show a + 1 + 1 = a + 2 from rfl, h.2.2]; exact h2.2⟩, h3, h4⟩
def swp (P : Nat → Option Nat) (s : Nat) (o p : Nat) : Nat → Option Nat := fun i => if i = 71 then some o else if i = s then some p else P i
/-- how many problems there are -/
def cnP (P : Nat → Option Nat) : Nat := csm (fun i => (P i).isSome) (fun _ => 1) 72
theorem csm_cg {P P2 : Nat → Bool} {g : Nat → Nat} : ∀ m, (∀ i, i < m → P i = P2 i) → csm P g m = csm P2 g m := by
  intro m
  induction m with
  | zero => intro _; rfl
  | succ m ih =>
    intro h
    simp only [csm]
    rw [ih (fun i hi => h i (by omega)), h m (by omega)]
theorem csm_up {P P2 : Nat → Bool} {s : Nat} : ∀ m, s < m → P s = false → P2 s = true → (∀ i, i ≠ s → P2 i = P i) → csm P2 (fun _ => 1) m = csm P (fun _ => 1) m + 1 := by
  intro m
  induction m with
  | zero => intro h; omega
  | succ m ih =>
    intro hs h1 h2 h3
    simp only [csm]
    by_cases e : s = m
    · subst e
      rw [h1, h2, csm_cg (P := P2) (P2 := P) s (fun i hi => h3 i (by omega))]
      simp
    · rw [ih (by omega) h1 h2 h3, h3 m (fun z => e z.symm)]
      omega
theorem cnP_swp {P : Nat → Option Nat} {s o p : Nat} (h71 : (P 71).isSome = true) (hs : (P s).isSome = true) : cnP (swp P s o p) = cnP P := by
  unfold cnP
  refine csm_cg _ (fun i _ => ?_)
  unfold swp
  by_cases e : i = 71
  · rw [if_pos e, e, h71]; rfl
  · rw [if_neg e]
    by_cases e2 : i = s
    · rw [if_pos e2, e2, hs]; rfl
    · rw [if_neg e2]
theorem cnP_new {P : Nat → Option Nat} {s o p : Nat} (h71 : (P 71).isSome = true) (hs : P s = none) (hs2 : s < 70) : cnP (swp P s o p) = cnP P + 1 := by
  unfold cnP
  have h1 : csm (fun i => (swp P s o p i).isSome) (fun _ => 1) 72 = csm (fun i => if i = s then true else (P i).isSome) (fun _ => 1) 72 := csm_cg _ (fun i _ => by
    unfold swp
    by_cases e : i = 71
    · rw [if_pos e, if_neg (by omega), e, h71]; rfl
    · rw [if_neg e]
      by_cases e2 : i = s
      · rw [if_pos e2, if_pos e2]; rfl
      · rw [if_neg e2, if_neg e2])
  rw [h1]
  exact csm_up (s := s) 72 (by omega) (by rw [hs]; rfl) (by rw [if_pos rfl]) (fun i hi => by rw [if_neg hi])
theorem cP_swp {G G2 : ah_H} {x s o p : Nat} {P : Nat → Option Nat} (h : cP G x P) (h71 : P 71 = some p) (hs : P s = some o) (hs2 : s ≠ 71) (h2 : G.2.1 ≤ G2.2.1) (hsam : ∀ i a, P i = some a → sam G G2 a) : cP G2 x (swp P s o p) := by
  have key : ∀ i a, swp P s o p i = some a → ∃ j, P j = some a ∧ (i = 71 → j = s) ∧ (i = s → j = 71) ∧ (i ≠ 71 → i ≠ s → j = i) := by
    intro i a hi
    unfold swp at hi
    by_cases e : i = 71
    · rw [if_pos e] at hi
      cases hi
      exact ⟨s, hs, fun _ => rfl, fun z => by omega, fun z => absurd e z⟩
    · rw [if_neg e] at hi
      by_cases e2 : i = s
      · rw [if_pos e2] at hi
        cases hi
        exact ⟨71, h71, fun z => absurd z e, fun _ => rfl, fun _ z => absurd e2 z⟩
      · rw [if_neg e2] at hi
        exact ⟨i, hi, fun z => absurd z e, fun z => absurd z e2, fun _ _ => rfl⟩
  refine ⟨fun i j a b hi hj hij => ?_, fun i a hi => ?_⟩
  · obtain ⟨i2, k1, k2, k3, k4⟩ := key i a hi
    obtain ⟨j2, l1, l2, l3, l4⟩ := key j b hj
    refine h.1 i2 j2 a b k1 l1 (fun z => hij ?_)
    by_cases e1 : i = 71
    · by_cases e2 : j = 71
      · omega
      · by_cases e3 : j = s
        · have := k2 e1; have := l3 e3; omega
        · have := k2 e1; have := l4 e2 e3; omega
    · by_cases e4 : i = s
      · by_cases e2 : j = 71
        · have := k3 e4; have := l2 e2; omega
        · by_cases e3 : j = s
          · omega
          · have := k3 e4; have := l4 e2 e3; omega
      · by_cases e2 : j = 71
        · have := k4 e1 e4; have := l2 e2; omega
        · by_cases e3 : j = s
          · have := k4 e1 e4; have := l3 e3; omega
          · have := k4 e1 e4; have := l4 e2 e3; omega
  · obtain ⟨i2, k1, _⟩ := key i a hi
    obtain ⟨m1, m2, m3⟩ := h.2 i2 a k1
    exact ⟨m1, by omega, psh_sam (hsam i2 a k1) m3⟩
theorem cP_new {G G2 : ah_H} {x s p : Nat} {P : Nat → Option Nat} (h : cP G x P) (h71 : P 71 = some p) (hs : P s = none) (h2 : G.2.1 + 3 ≤ G2.2.1) (hx : x + 236 ≤ G.2.1) (hsam : ∀ i a, P i = some a → sam G G2 a) (hn : psh G2 G.2.1) : cP G2 x (swp P s G.2.1 p) := by
  have hs71 : s ≠ 71 := fun z => by rw [z, h71] at hs; cases hs
  refine ⟨fun i j a b hi hj hij => ?_, fun i a hi => ?_⟩
  · have key : ∀ i a, swp P s G.2.1 p i = some a → i ≠ 71 → ∃ k, P k = some a ∧ (i = s → k = 71) ∧ (i ≠ s → k = i) := by
      intro i a hi e
      unfold swp at hi
      rw [if_neg e] at hi
      by_cases e2 : i = s
      · rw [if_pos e2] at hi
        cases hi
        exact ⟨71, h71, fun _ => rfl, fun z => absurd e2 z⟩
      · rw [if_neg e2] at hi
        exact ⟨i, hi, fun z => absurd z e2, fun _ => rfl⟩
    by_cases e1 : i = 71
    · have : a = G.2.1 := by
        unfold swp at hi
        rw [if_pos e1] at hi
        cases hi
        rfl
      obtain ⟨k, k1, _⟩ := key j b hj (by omega)
      have := (h.2 k b k1).2.1
      omega
    · obtain ⟨k, k1, k2, k3⟩ := key i a hi e1
      by_cases e2 : j = 71
      · have : b = G.2.1 := by
          unfold swp at hj
          rw [if_pos e2] at hj
          cases hj
          rfl
        have := (h.2 k a k1).2.1
        omega
      · obtain ⟨l, l1, l2, l3⟩ := key j b hj e2
        refine h.1 k l a b k1 l1 (fun z => hij ?_)
        by_cases e3 : i = s
        · by_cases e4 : j = s
          · omega
          · have := k2 e3; have := l3 e4; omega
        · by_cases e4 : j = s
          · have := k3 e3; have := l2 e4; omega
          · have := k3 e3; have := l3 e4; omega
  · unfold swp at hi
    by_cases e : i = 71
    · rw [if_pos e] at hi
      cases hi
      exact ⟨⟨by omega, Or.inr hx⟩, by omega, hn⟩
    · rw [if_neg e] at hi
      by_cases e2 : i = s
      · rw [if_pos e2] at hi
        cases hi
        obtain ⟨m1, m2, m3⟩ := h.2 71 p h71
        exact ⟨m1, by omega, psh_sam (hsam 71 p h71) m3⟩
      · rw [if_neg e2] at hi
        obtain ⟨m1, m2, m3⟩ := h.2 i a hi
        exact ⟨m1, by omega, psh_sam (hsam i a hi) m3⟩
