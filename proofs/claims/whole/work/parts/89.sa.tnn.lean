/-! a tree that has been made: its nodes by their numbers -/
def chA (G : ah_H) : List Nat → Value → Prop
  | [], v => v = .null
  | a :: as, v => v = .ref a ∧ ∃ nx, nfl G a 6 = some nx ∧ chA G as nx
def kct (G : ah_H) (ad : Nat → Option Nat) (g : List Nat → Int64 → Nat → Int32 → Nat → List nd → Prop) (u : Nat → List Nat × Int64) : List Nat → Nat → Int32 → Nat → List nd → List Nat → Prop
  | [], _, _, _, M, as => M = [] ∧ as = []
  | c :: cs, n, par, ord, M, as => ∃ a as2 L M2, as = a :: as2 ∧ M = L ++ M2 ∧ ad n = some a ∧ nfl G a 1 = some (.int (nI c)) ∧ g (u c).1 (u c).2 n par ord L ∧ kct G ad g u cs (n + L.length) par (ord + 1) M2 as2
def tnn (G : ah_H) (ad : Nat → Option Nat) (A : Nat → Nat) (rl : mR) (ns : Nat) : Nat → List Nat → Int64 → Nat → Int32 → Nat → List nd → Prop
  | 0, _, _, _, _, _, _ => False
  | f + 1, p, S, n, par, ord, L => ∃ a, ad n = some a ∧ nfl G a 0 = some (.int (nI n)) ∧ ((isl A rl p S = true ∧ L = [(0, fsr S, 0, par, ord)] ∧ nfl G a 2 = some (.int (nI 0)) ∧ nfl G a 3 = some (.int (nI (fsr S))) ∧ nfl G a 4 = some (.int (nI 0)) ∧ nfl G a 5 = some .null) ∨ (isl A rl p S = false ∧ ∃ k fc M as, bro A rl p S = some k ∧ (pds A p (jof p k)).length ≤ 8 ∧ L = (1, plv (pds A p (jof p k)), (chs A rl ns p k S).length, par, ord) :: M ∧ nfl G a 2 = some (.int (nI (plv (pds A p (jof p k))))) ∧ nfl G a 4 = some (.int (nI (chs A rl ns p k S).length)) ∧ nfl G a 5 = some fc ∧ chA G as fc ∧ kct G ad (tnn G ad A rl ns f) (kid A rl p k S) (chs A rl ns p k S) (n + 1) (nI n) 0 M as))
theorem chA_isR {G : ah_H} : ∀ (as : List Nat) (v : Value), chA G as v → ae_isR v = true := by
  intro as v h
  cases as with
  | nil => rw [show v = .null from h]; rfl
  | cons a as => rw [h.1]; rfl
theorem chA_cg {G G2 : ah_H} : ∀ (as : List Nat) (v : Value), (∀ a, a ∈ as → nfl G2 a 6 = nfl G a 6) → chA G as v → chA G2 as v := by
  intro as
  induction as with
  | nil => intro v _ h; exact h
  | cons a as ih =>
    intro v hc h
    obtain ⟨h1, nx, h2, h3⟩ := h
    exact ⟨h1, nx, by rw [hc a (List.mem_cons_self ..)]; exact h2, ih nx (fun b hb => hc b (List.mem_cons_of_mem _ hb)) h3⟩
theorem chA_snoc {G G2 : ah_H} {a2 la : Nat} : ∀ (as : List Nat) (v : Value), as.getLast? = some la → as.Nodup → chA G as v → (∀ a, a ∈ as → a ≠ la → nfl G2 a 6 = nfl G a 6) → nfl G2 la 6 = some (.ref a2) → nfl G2 a2 6 = some .null → chA G2 (as ++ [a2]) v := by
  intro as
  induction as with
  | nil => intro v h; cases h
  | cons a as ih =>
    intro v hl hnd h hc h6 h7
    obtain ⟨h1, nx, h2, h3⟩ := h
    cases as with
    | nil =>
      have : a = la := by simpa using hl
      subst this
      exact ⟨h1, _, h6, rfl, _, h7, rfl⟩
    | cons b as =>
      have hl2 : (b :: as).getLast? = some la := by rw [← hl, List.getLast?_cons_cons]
      have hm : la ∈ b :: as := List.mem_of_getLast? hl2
      have hne : a ≠ la := fun e => by rw [e] at hnd; exact (List.nodup_cons.mp hnd).1 hm
      exact ⟨h1, nx, by rw [hc a (List.mem_cons_self ..) hne]; exact h2, ih nx hl2 (List.nodup_cons.mp hnd).2 h3 (fun c hc1 hc2 => hc c (List.mem_cons_of_mem _ hc1) hc2) h6 h7⟩
theorem tnn_pos {G : ah_H} {ad : Nat → Option Nat} {A : Nat → Nat} {rl : mR} {ns f : Nat} {p : List Nat} {S : Int64} {n : Nat} {par : Int32} {ord : Nat} {L : List nd} (h : tnn G ad A rl ns f p S n par ord L) : 0 < L.length := by
  cases f with
  | zero => exact h.elim
  | succ f =>
    obtain ⟨a, _, _, h3⟩ := h
    rcases h3 with ⟨_, h4, _⟩ | ⟨_, k, fc, M, as, _, _, h4, _⟩
    · rw [h4]; simp
    · rw [h4]; simp
theorem kct_snoc {G : ah_H} {ad : Nat → Option Nat} {g : List Nat → Int64 → Nat → Int32 → Nat → List nd → Prop} {u : Nat → List Nat × Int64} {par : Int32} {c a : Nat} {L : List nd} : ∀ (cs : List Nat) (n ord : Nat) (M : List nd) (as : List Nat), kct G ad g u cs n par ord M as → ad (n + M.length) = some a → nfl G a 1 = some (.int (nI c)) → g (u c).1 (u c).2 (n + M.length) par (ord + cs.length) L → kct G ad g u (cs ++ [c]) n par ord (M ++ L) (as ++ [a]) := by
  intro cs
  induction cs with
  | nil =>
    intro n ord M as h h1 h2 h3
    obtain ⟨rfl, rfl⟩ := h
    exact ⟨a, [], L, [], rfl, by simp, h1, h2, h3, rfl, rfl⟩
  | cons c0 cs ih =>
    intro n ord M as h h1 h2 h3
    obtain ⟨a0, as2, L0, M2, e1, e2, e3, e4, e5, e6⟩ := h
    subst e1
    subst e2
    rw [List.length_append] at h1 h3
    refine ⟨a0, as2 ++ [a], L0, M2 ++ L, rfl, List.append_assoc .., e3, e4, e5, ih _ _ _ _ e6 (by rw [Nat.add_assoc]; exact h1) h2 ?_⟩
    rw [Nat.add_assoc, show ord + 1 + cs.length = ord + (c0 :: cs).length by simp only [List.length_cons]; omega]
    exact h3
theorem kct_len {G : ah_H} {ad : Nat → Option Nat} {g : List Nat → Int64 → Nat → Int32 → Nat → List nd → Prop} {u : Nat → List Nat × Int64} {par : Int32} : ∀ (cs : List Nat) (n ord : Nat) (M : List nd) (as : List Nat), kct G ad g u cs n par ord M as → as.length = cs.length := by
  intro cs
  induction cs with
  | nil => intro n ord M as h; rw [h.2]
  | cons c cs ih =>
    intro n ord M as h
    obtain ⟨a0, as2, L0, M2, e1, e2, e3, e4, e5, e6⟩ := h
    rw [e1, List.length_cons, List.length_cons, ih _ _ _ _ e6]
theorem kct_last {G : ah_H} {ad : Nat → Option Nat} {g : List Nat → Int64 → Nat → Int32 → Nat → List nd → Prop} {u : Nat → List Nat × Int64} {par : Int32} {la : Nat} : ∀ (cs : List Nat) (n ord : Nat) (M : List nd) (as : List Nat), kct G ad g u cs n par ord M as → as.getLast? = some la → ∃ c, cs.getLast? = some c ∧ nfl G la 1 = some (.int (nI c)) := by
  intro cs
  induction cs with
  | nil => intro n ord M as h hl; rw [h.2] at hl; cases hl
  | cons c cs ih =>
    intro n ord M as h hl
    obtain ⟨a0, as2, L0, M2, e1, e2, e3, e4, e5, e6⟩ := h
    subst e1
    cases cs with
    | nil =>
      rw [e6.2] at hl
      have : a0 = la := by simpa using hl
      subst this
      exact ⟨c, rfl, e4⟩
    | cons c2 cs =>
      obtain ⟨b0, bs2, L1, M3, d1, d2⟩ := e6
      have d0 : kct G ad g u (c2 :: cs) (n + L0.length) par (ord + 1) M2 as2 := ⟨b0, bs2, L1, M3, d1, d2⟩
      subst d1
      rw [List.getLast?_cons_cons] at hl ⊢
      exact ih _ _ _ _ d0 hl
theorem kct_mem {G : ah_H} {ad : Nat → Option Nat} {g : List Nat → Int64 → Nat → Int32 → Nat → List nd → Prop} {u : Nat → List Nat × Int64} {par : Int32} (hp : ∀ p S n ord L, g p S n par ord L → 0 < L.length) : ∀ (cs : List Nat) (n ord : Nat) (M : List nd) (as : List Nat), kct G ad g u cs n par ord M as → ∀ a, a ∈ as → ∃ j, n ≤ j ∧ j < n + M.length ∧ ad j = some a := by
  intro cs
  induction cs with
  | nil => intro n ord M as h a ha; rw [h.2] at ha; cases ha
  | cons c cs ih =>
    intro n ord M as h a ha
    obtain ⟨a0, as2, L0, M2, e1, e2, e3, e4, e5, e6⟩ := h
    subst e1
    subst e2
    have := hp _ _ _ _ _ e5
    rcases List.mem_cons.mp ha with rfl | ha
    · exact ⟨n, Nat.le_refl _, by rw [List.length_append]; omega, e3⟩
    · obtain ⟨j, j1, j2, j3⟩ := ih _ _ _ _ e6 a ha
      exact ⟨j, by omega, by rw [List.length_append]; omega, j3⟩
theorem kct_nodup {G : ah_H} {ad : Nat → Option Nat} {g : List Nat → Int64 → Nat → Int32 → Nat → List nd → Prop} {u : Nat → List Nat × Int64} {par : Int32} (hp : ∀ p S n ord L, g p S n par ord L → 0 < L.length) : ∀ (cs : List Nat) (n ord : Nat) (M : List nd) (as : List Nat), (∀ i j a, n ≤ i → i < n + M.length → n ≤ j → j < n + M.length → ad i = some a → ad j = some a → i = j) → kct G ad g u cs n par ord M as → as.Nodup := by
  intro cs
  induction cs with
  | nil => intro n ord M as _ h; rw [h.2]; exact List.nodup_nil
  | cons c cs ih =>
    intro n ord M as hi h
    obtain ⟨a0, as2, L0, M2, e1, e2, e3, e4, e5, e6⟩ := h
    subst e1
    subst e2
    have hl := hp _ _ _ _ _ e5
    rw [List.length_append] at hi
    refine List.nodup_cons.mpr ⟨fun hm => ?_, ih _ _ _ _ (fun i j a h1 h2 h3 h4 => hi i j a (by omega) (by omega) (by omega) (by omega)) e6⟩
    obtain ⟨j, j1, j2, j3⟩ := kct_mem hp _ _ _ _ _ e6 _ hm
    have := hi n j a0 (Nat.le_refl _) (by omega) (by omega) (by omega) e3 j3
    omega
/-- the same when only the last child's link to a next one changes -/
theorem kct_cg {G G2 : ah_H} {ad ad2 : Nat → Option Nat} {g g2 : List Nat → Int64 → Nat → Int32 → Nat → List nd → Prop} {u : Nat → List Nat × Int64} {par : Int32} {lo hi : Nat} (hp : ∀ p S n ord L, g p S n par ord L → 0 < L.length) (hg : ∀ p S n ord L, lo ≤ n → n + L.length ≤ hi → g p S n par ord L → (∀ j, n ≤ j → j < n + L.length → ∀ a, ad j = some a → ad2 j = some a ∧ ∀ k, (k ≠ 6 ∨ j ≠ n) → nfl G2 a k = nfl G a k) → g2 p S n par ord L) (hij : ∀ i j a, lo ≤ i → i < hi → lo ≤ j → j < hi → ad i = some a → ad j = some a → i = j) : ∀ (cs : List Nat) (n ord : Nat) (M : List nd) (as : List Nat), lo ≤ n → n + M.length ≤ hi → (∀ j, n ≤ j → j < n + M.length → ∀ a, ad j = some a → ad2 j = some a ∧ ∀ k, (k ≠ 6 ∨ as.getLast? ≠ some a) → nfl G2 a k = nfl G a k) → kct G ad g u cs n par ord M as → kct G2 ad2 g2 u cs n par ord M as := by
  intro cs
  induction cs with
  | nil => intro n ord M as _ _ _ h; exact h
  | cons c cs ih =>
    intro n ord M as hlo hhi hf h
    obtain ⟨a0, as2, L0, M2, e1, e2, e3, e4, e5, e6⟩ := h
    subst e1
    subst e2
    have hl := hp _ _ _ _ _ e5
    rw [List.length_append] at hhi hf
    have f0 := hf n (Nat.le_refl _) (by omega) a0 e3
    refine ⟨a0, as2, L0, M2, rfl, rfl, f0.1, by rw [f0.2 1 (Or.inl (by omega))]; exact e4, hg _ _ _ _ _ hlo (by omega) e5 (fun j h1 h2 a ha => ?_), ih _ _ _ _ (by omega) (by omega) (fun j h1 h2 a ha => ?_) e6⟩
    · have f1 := hf j (by omega) (by omega) a ha
      refine ⟨f1.1, fun k hk => f1.2 k ?_⟩
      rcases hk with hk | hk
      · exact Or.inl hk
      · refine Or.inr (fun hla => ?_)
        cases as2 with
        | nil =>
          have : a0 = a := by simpa using hla
          subst this
          exact hk (hij j n a0 (by omega) (by omega) (by omega) (by omega) ha e3)
        | cons b bs =>
          rw [List.getLast?_cons_cons] at hla
          obtain ⟨j', j1, j2, j3⟩ := kct_mem hp _ _ _ _ _ e6 a (List.mem_of_getLast? hla)
          have := hij j j' a (by omega) (by omega) (by omega) (by omega) ha j3
          omega
    · have f1 := hf j (by omega) (by omega) a ha
      refine ⟨f1.1, fun k hk => f1.2 k ?_⟩
      rcases hk with hk | hk
      · exact Or.inl hk
      · cases as2 with
        | nil =>
          cases cs with
          | nil => rw [e6.1] at h2; simp at h2; omega
          | cons c2 cs => obtain ⟨b0, bs2, L1, M3, d1, d2⟩ := e6; cases d1
        | cons b bs => rw [List.getLast?_cons_cons]; exact Or.inr hk
theorem tnn_cg {G G2 : ah_H} {ad ad2 : Nat → Option Nat} {A : Nat → Nat} {rl : mR} {ns : Nat} : ∀ (f : Nat) (p : List Nat) (S : Int64) (n : Nat) (par : Int32) (ord : Nat) (L : List nd), (∀ i j a, n ≤ i → i < n + L.length → n ≤ j → j < n + L.length → ad i = some a → ad j = some a → i = j) → tnn G ad A rl ns f p S n par ord L → (∀ j, n ≤ j → j < n + L.length → ∀ a, ad j = some a → ad2 j = some a ∧ ∀ k, (k ≠ 6 ∨ j ≠ n) → nfl G2 a k = nfl G a k) → tnn G2 ad2 A rl ns f p S n par ord L := by
  intro f
  induction f with
  | zero => intro p S n par ord L _ h; exact h.elim
  | succ f ih =>
    intro p S n par ord L hi h hf
    have hl := tnn_pos h
    obtain ⟨a, h1, h2, h3⟩ := h
    have f0 := hf n (Nat.le_refl _) (by omega) a h1
    refine ⟨a, f0.1, by rw [f0.2 0 (Or.inl (by omega))]; exact h2, ?_⟩
    rcases h3 with ⟨b1, b2, b3, b4, b5, b6⟩ | ⟨b1, k, fc, M, as, b2, b3, b4, b5, b6, b7, b8, b9⟩
    · exact Or.inl ⟨b1, b2, by rw [f0.2 2 (Or.inl (by omega))]; exact b3, by rw [f0.2 3 (Or.inl (by omega))]; exact b4, by rw [f0.2 4 (Or.inl (by omega))]; exact b5, by rw [f0.2 5 (Or.inl (by omega))]; exact b6⟩
    · have hML : L.length = M.length + 1 := by rw [b4]; simp
      have hi2 : ∀ i j a, n + 1 ≤ i → i < n + 1 + M.length → n + 1 ≤ j → j < n + 1 + M.length → ad i = some a → ad j = some a → i = j := fun i j a q1 q2 q3 q4 => hi i j a (by omega) (by omega) (by omega) (by omega)
      have hf2 : ∀ j, n + 1 ≤ j → j < n + 1 + M.length → ∀ a, ad j = some a → ad2 j = some a ∧ ∀ k, nfl G2 a k = nfl G a k := fun j q1 q2 a ha => ⟨(hf j (by omega) (by omega) a ha).1, fun k => (hf j (by omega) (by omega) a ha).2 k (Or.inr (by omega))⟩
      have hp : ∀ p S m ord L, tnn G ad A rl ns f p S m (nI n) ord L → 0 < L.length := fun p S m ord L h => tnn_pos h
      refine Or.inr ⟨b1, k, fc, M, as, b2, b3, b4, by rw [f0.2 2 (Or.inl (by omega))]; exact b5, by rw [f0.2 4 (Or.inl (by omega))]; exact b6, by rw [f0.2 5 (Or.inl (by omega))]; exact b7, chA_cg _ _ (fun b hb => ?_) b8, ?_⟩
      · obtain ⟨j, j1, j2, j3⟩ := kct_mem hp _ _ _ _ _ b9 b hb
        exact (hf2 j j1 j2 b j3).2 6
      · have key : ∀ (cs : List Nat) (m ord : Nat) (M : List nd) (as : List Nat), (∀ i j a, m ≤ i → i < m + M.length → m ≤ j → j < m + M.length → ad i = some a → ad j = some a → i = j) → (∀ j, m ≤ j → j < m + M.length → ∀ a, ad j = some a → ad2 j = some a ∧ ∀ k, nfl G2 a k = nfl G a k) → kct G ad (tnn G ad A rl ns f) (kid A rl p k S) cs m (nI n) ord M as → kct G2 ad2 (tnn G2 ad2 A rl ns f) (kid A rl p k S) cs m (nI n) ord M as := by
          intro cs
          induction cs with
          | nil => intro m ord M as _ _ h; exact h
          | cons c cs ihc =>
            intro m ord M as hi hf h
            obtain ⟨a0, as2, L0, M2, e1, e2, e3, e4, e5, e6⟩ := h
            subst e1
            subst e2
            have hl := tnn_pos e5
            rw [List.length_append] at hi hf
            have f0 := hf m (Nat.le_refl _) (by omega) a0 e3
            exact ⟨a0, as2, L0, M2, rfl, rfl, f0.1, by rw [f0.2 1]; exact e4, ih _ _ _ _ _ _ (fun i j a q1 q2 q3 q4 => hi i j a (by omega) (by omega) (by omega) (by omega)) e5 (fun j q1 q2 a ha => ⟨(hf j (by omega) (by omega) a ha).1, fun k _ => (hf j (by omega) (by omega) a ha).2 k⟩), ihc _ _ _ _ (fun i j a q1 q2 q3 q4 => hi i j a (by omega) (by omega) (by omega) (by omega)) (fun j q1 q2 => hf j (by omega) (by omega)) e6⟩
        exact key _ _ _ _ _ hi2 hf2 b9
/-- the children that a node has so far stay when a next one is made -/
theorem kct_stay {G G2 : ah_H} {ad ad2 : Nat → Option Nat} {A : Nat → Nat} {rl : mR} {ns f : Nat} {u : Nat → List Nat × Int64} {par : Int32} {cs : List Nat} {n ord : Nat} {M : List nd} {as : List Nat} (hij : ∀ i j a, n ≤ i → i < n + M.length → n ≤ j → j < n + M.length → ad i = some a → ad j = some a → i = j) (hf : ∀ j, n ≤ j → j < n + M.length → ∀ a, ad j = some a → ad2 j = some a ∧ ∀ k, (k ≠ 6 ∨ as.getLast? ≠ some a) → nfl G2 a k = nfl G a k) (h : kct G ad (tnn G ad A rl ns f) u cs n par ord M as) : kct G2 ad2 (tnn G2 ad2 A rl ns f) u cs n par ord M as :=
  kct_cg (lo := n) (hi := n + M.length) (fun _ _ _ _ _ h => tnn_pos h) (fun p S m ord L h1 h2 h3 h4 => tnn_cg f p S m par ord L (fun i j a q1 q2 q3 q4 => hij i j a (by omega) (by omega) (by omega) (by omega)) h3 h4) hij cs n ord M as (Nat.le_refl _) (Nat.le_refl _) hf h
