/-! what a tree that has been made says: the list of its nodes, what the solver reads, what queries read -/
theorem kct_lay {G : ah_H} {ad : Nat → Option Nat} {g : List Nat → Int64 → Nat → Int32 → Nat → List nd → Prop} {g0 : List Nat → Int64 → Nat → Int32 → Nat → Option (List nd)} {u : Nat → List Nat × Int64} {par : Int32} (hg : ∀ p S n ord L, g p S n par ord L → g0 p S n par ord = some L) : ∀ (cs : List Nat) (n ord : Nat) (M : List nd) (as : List Nat), kct G ad g u cs n par ord M as → layL g0 u cs n par ord = some M := by
  intro cs
  induction cs with
  | nil => intro n ord M as h; rw [h.1]; rfl
  | cons c cs ih =>
    intro n ord M as h
    obtain ⟨a0, as2, L0, M2, e1, e2, e3, e4, e5, e6⟩ := h
    simp only [layL, hg _ _ _ _ _ e5, ih _ _ _ _ e6, e2]
theorem tnn_lay {G : ah_H} {ad : Nat → Option Nat} {A : Nat → Nat} {rl : mR} {ns : Nat} : ∀ (f : Nat) (p : List Nat) (S : Int64) (n : Nat) (par : Int32) (ord : Nat) (L : List nd), tnn G ad A rl ns f p S n par ord L → lay A rl ns f p S n par ord = some L := by
  intro f
  induction f with
  | zero => intro p S n par ord L h; exact h.elim
  | succ f ih =>
    intro p S n par ord L h
    obtain ⟨a, h1, h2, h3⟩ := h
    simp only [lay]
    rcases h3 with ⟨b1, b2, b3, b4, b5, b6⟩ | ⟨b1, k, fc, M, as, b2, b3, b4, b5, b6, b7, b8, b9⟩
    · rw [if_pos b1, b2]
    · rw [if_neg (by rw [b1]; exact Bool.false_ne_true), b2]
      dsimp only
      rw [if_neg (by omega), kct_lay (fun p S n ord L h => ih p S n _ ord L h) _ _ _ _ _ b9, b4]
theorem kct_kch {G : ah_H} {ad : Nat → Option Nat} {g : List Nat → Int64 → Nat → Int32 → Nat → List nd → Prop} {g0 : Nat → List Nat → Int64 → Prop} {u : Nat → List Nat × Int64} {par : Int32} : ∀ (cs : List Nat) (n ord : Nat) (M : List nd) (as : List Nat) (v : Value), (∀ p S m ord L a, n ≤ m → m + L.length ≤ n + M.length → g p S m par ord L → ad m = some a → g0 a p S) → kct G ad g u cs n par ord M as → chA G as v → kch G g0 u cs v := by
  intro cs
  induction cs with
  | nil => intro n ord M as v _ h hc; rw [h.2] at hc; exact hc
  | cons c cs ih =>
    intro n ord M as v hg h hc
    obtain ⟨a0, as2, L0, M2, e1, e2, e3, e4, e5, e6⟩ := h
    subst e1
    subst e2
    rw [List.length_append] at hg
    obtain ⟨c1, nx, c2, c3⟩ := hc
    exact ⟨a0, nx, c1, e4, c2, hg _ _ _ _ _ _ (Nat.le_refl _) (by omega) e5 e3, ih _ _ _ _ _ (fun p S m ord L a h1 h2 => hg p S m ord L a (by omega) (by omega)) e6 c3⟩
theorem tnn_nod {E : Nat → Prop} {G : ah_H} {ad : Nat → Option Nat} {A : Nat → Nat} {rl : mR} {ns : Nat} : ∀ (f : Nat) (p : List Nat) (S : Int64) (n : Nat) (par : Int32) (ord : Nat) (L : List nd) (a : Nat), (∀ j a, n ≤ j → j < n + L.length → ad j = some a → E a) → tnn G ad A rl ns f p S n par ord L → ad n = some a → nod E G A rl ns f a p S := by
  intro f
  induction f with
  | zero => intro p S n par ord L a _ h; exact h.elim
  | succ f ih =>
    intro p S n par ord L a hE h ha
    have hl := tnn_pos h
    obtain ⟨a2, h1, h2, h3⟩ := h
    rw [ha] at h1
    cases h1
    refine ⟨hE n a (Nat.le_refl _) (by omega) ha, ?_⟩
    rcases h3 with ⟨b1, b2, b3, b4, b5, b6⟩ | ⟨b1, k, fc, M, as, b2, b3, b4, b5, b6, b7, b8, b9⟩
    · rw [if_pos b1]; exact ⟨b3, b4⟩
    · rw [if_neg (by rw [b1]; exact Bool.false_ne_true)]
      have hML : L.length = M.length + 1 := by rw [b4]; simp
      exact ⟨k, fc, b2, b3, b5, b7, kct_kch _ _ _ _ _ _ (fun p S m ord L a h1 h2 h3 h4 => ih p S m _ ord L a (fun j a q1 q2 => hE j a (by omega) (by omega)) h3 h4) b9 b8⟩
theorem nod_ext {E : Nat → Prop} {G : ah_H} {ns : Nat} {A : Nat → Nat} {rl : mR} {ns2 : Nat} {A2 : Nat → Nat} {rl2 : mR} (h99 : A 99 = 0) (h : ext ns A rl ns2 A2 rl2) (hg : rgo ns A rl) : ∀ (f a : Nat) (p : List Nat) (S : Int64), wfp ns A rl p S → nod E G A rl ns f a p S → nod E G A2 rl2 ns2 f a p S := by
  intro f
  induction f with
  | zero => intro a p S _ h; exact h.elim
  | succ f ih =>
    intro a p S hw hn
    obtain ⟨h1, h2⟩ := hn
    refine ⟨h1, ?_⟩
    rw [ext_isl h hg hw.2.2.2.2.1]
    by_cases c : isl A rl p S = true
    · rw [if_pos c] at h2 ⊢; exact h2
    · rw [if_neg c] at h2 ⊢
      obtain ⟨k, fc, b1, b2, b3, b4, b5⟩ := h2
      refine ⟨k, fc, by rw [ext_bro h hg hw.2.2.2.2.1]; exact b1, by rw [ext_pds h hw b1]; exact b2, by rw [ext_pds h hw b1]; exact b3, b4, ?_⟩
      rw [ext_chs h hg hw b1]
      have key : ∀ (cs : List Nat) (v : Value), (∀ c, c ∈ cs → c < ns ∧ wia A rl p k S c ≠ 0) → kch G (nod E G A rl ns f) (kid A rl p k S) cs v → kch G (nod E G A2 rl2 ns2 f) (kid A2 rl2 p k S) cs v := by
        intro cs
        induction cs with
        | nil => intro v _ h; exact h
        | cons c cs ihc =>
          intro v hc hk
          obtain ⟨a, nx, d1, d2, d3, d4, d5⟩ := hk
          have hc0 := hc c (List.mem_cons_self ..)
          refine ⟨a, nx, d1, d2, d3, ?_, ihc nx (fun c hc1 => hc c (List.mem_cons_of_mem _ hc1)) d5⟩
          rw [ext_kid h hg hw hc0.1]
          exact ih _ _ _ (kid_wfp h99 (by have := h.1; have := h.2.1; omega) hg hw b1 hc0.1 hc0.2) d4
      exact key _ _ chs_ok.2 b5
/-! the nodes one by one -/
def ndF (G : ah_H) (ad : Nat → Option Nat) (L : List nd) (n k : Nat) : Prop := ∃ (a : Nat) (fc : Value) (as bs : List Nat), ad (n + k) = some a ∧ nfl G a 0 = some (.int (nI (n + k))) ∧ (((nat L k).1 = 0 ∧ nfl G a 2 = some (.int (nI 0)) ∧ nfl G a 3 = some (.int (nI (nat L k).2.1))) ∨ ((nat L k).1 = 1 ∧ nfl G a 2 = some (.int (nI (nat L k).2.1)) ∧ 0 < (nat L k).2.1 ∧ (nat L k).2.1 < 2147483648)) ∧ nfl G a 4 = some (.int (nI (nat L k).2.2.1)) ∧ (nat L k).2.2.1 ≤ 24 ∧ nfl G a 5 = some fc ∧ chA G as fc ∧ as.length = (nat L k).2.2.1 ∧ bs.length = (nat L k).2.2.1 ∧ (∀ t b : Nat, bs[t]? = some b → n ≤ b ∧ b < n + L.length ∧ ∃ a2 : Nat, as[t]? = some a2 ∧ ad b = some a2 ∧ nfl G a2 0 = some (.int (nI b))) ∧ ∀ j, j < L.length → ∀ t : Nat, (nat L j).2.2.2 = (nI (n + k), t) ↔ bs[t]? = some (n + j)
/-- a node stays what it is in a longer list that has no other children of it -/
theorem ndF_up {G : ah_H} {ad : Nat → Option Nat} {X L Y : List nd} {n k : Nat} (hk : k < L.length) (h : ndF G ad L (n + X.length) k) (ho : ∀ j, j < X.length + (L.length + Y.length) → (j < X.length ∨ X.length + L.length ≤ j) → ∀ t : Nat, (nat (X ++ (L ++ Y)) j).2.2.2 ≠ (nI (n + X.length + k), t)) : ndF G ad (X ++ (L ++ Y)) n (X.length + k) := by
  obtain ⟨a, fc, as, bs, h1, h2, h3, h4, h5, h6, h7, h8, h9, h10, h11⟩ := h
  have e : nat (X ++ (L ++ Y)) (X.length + k) = nat L k := by rw [nat_app2 (by omega), Nat.add_sub_cancel_left, nat_app1 hk]
  have el : (X ++ (L ++ Y)).length = X.length + (L.length + Y.length) := by simp only [List.length_append]
  unfold ndF
  rw [e, el, show n + (X.length + k) = n + X.length + k by omega]
  refine ⟨a, fc, as, bs, h1, h2, h3, h4, h5, h6, h7, h8, h9, fun t b hb => ?_, fun j hj t => ?_⟩
  · obtain ⟨q1, q2, q3⟩ := h10 t b hb
    exact ⟨by omega, by omega, q3⟩
  · by_cases c : j < X.length ∨ X.length + L.length ≤ j
    · constructor
      · intro z; exact absurd z (ho j hj c t)
      · intro z
        obtain ⟨q1, q2, q3⟩ := h10 t _ z
        omega
    · obtain ⟨i, hi⟩ : ∃ i, j = X.length + i := ⟨j - X.length, by omega⟩
      subst hi
      rw [nat_app2 (by omega), Nat.add_sub_cancel_left, nat_app1 (by omega), h11 i (by omega) t, Nat.add_assoc]
/-- where the parents of the nodes of a list stand -/
def prs (L : List nd) (n : Nat) (par : Int32) : Prop := ∀ j, j < L.length → (nat L j).2.2.2.1 = par ∨ ∃ m, (nat L j).2.2.2.1 = nI m ∧ n ≤ m ∧ m < n + L.length
theorem nI_ij {a b : Nat} (ha : a < 2147483648) (hb : b < 2147483648) (h : nI a = nI b) : a = b := by
  by_cases c : a = b
  · exact c
  · have := cI_eqF ⟨c, ha, hb⟩
    rw [h] at this
    exact absurd rfl (of_eq_false this)
theorem prs_cons {x : nd} {M : List nd} {n : Nat} {par : Int32} (hx : x.2.2.2.1 = par) (h : prs M (n + 1) (nI n)) : prs (x :: M) n par := fun j hj => by
  cases j with
  | zero => exact Or.inl hx
  | succ j =>
    have e : nat (x :: M) (j + 1) = nat M j := rfl
    rw [List.length_cons] at hj ⊢
    rw [e]
    rcases h j (by omega) with z | ⟨m, z1, z2, z3⟩
    · exact Or.inr ⟨n, z, Nat.le_refl _, by omega⟩
    · exact Or.inr ⟨m, z1, by omega, by omega⟩
theorem prs_app {L M : List nd} {n : Nat} {par : Int32} (h1 : prs L n par) (h2 : prs M (n + L.length) par) : prs (L ++ M) n par := fun j hj => by
  rw [List.length_append] at hj ⊢
  by_cases c : j < L.length
  · rw [nat_app1 c]
    rcases h1 j c with z | ⟨m, z1, z2, z3⟩
    · exact Or.inl z
    · exact Or.inr ⟨m, z1, z2, by omega⟩
  · rw [nat_app2 (by omega)]
    rcases h2 (j - L.length) (by omega) with z | ⟨m, z1, z2, z3⟩
    · exact Or.inl z
    · exact Or.inr ⟨m, z1, by omega, by omega⟩
theorem kct_prs {G : ah_H} {ad : Nat → Option Nat} {g : List Nat → Int64 → Nat → Int32 → Nat → List nd → Prop} {u : Nat → List Nat × Int64} {par : Int32} (hg : ∀ p S n ord L, g p S n par ord L → prs L n par) : ∀ (cs : List Nat) (n ord : Nat) (M : List nd) (as : List Nat), kct G ad g u cs n par ord M as → prs M n par := by
  intro cs
  induction cs with
  | nil => intro n ord M as h j hj; rw [h.1] at hj; cases hj
  | cons c cs ih =>
    intro n ord M as h
    obtain ⟨a0, as2, L0, M2, e1, e2, e3, e4, e5, e6⟩ := h
    subst e2
    exact prs_app (hg _ _ _ _ _ e5) (ih _ _ _ _ e6)
theorem tnn_prs {G : ah_H} {ad : Nat → Option Nat} {A : Nat → Nat} {rl : mR} {ns : Nat} : ∀ (f : Nat) (p : List Nat) (S : Int64) (n : Nat) (par : Int32) (ord : Nat) (L : List nd), tnn G ad A rl ns f p S n par ord L → prs L n par ∧ (nat L 0).2.2.2 = (par, ord) := by
  intro f
  induction f with
  | zero => intro p S n par ord L h; exact h.elim
  | succ f ih =>
    intro p S n par ord L h
    obtain ⟨a, h1, h2, h3⟩ := h
    rcases h3 with ⟨b1, b2, b3, b4, b5, b6⟩ | ⟨b1, k, fc, M, as, b2, b3, b4, b5, b6, b7, b8, b9⟩
    · subst b2
      exact ⟨fun j hj => by
        have : j = 0 := by simp at hj; omega
        subst this; exact Or.inl rfl, rfl⟩
    · subst b4
      exact ⟨prs_cons rfl (kct_prs (fun p S n ord L h => (ih p S n _ ord L h).1) _ _ _ _ _ b9), rfl⟩
/-- the children of a node: their numbers -/
theorem kct_flat {G : ah_H} {ad : Nat → Option Nat} {g : List Nat → Int64 → Nat → Int32 → Nat → List nd → Prop} {u : Nat → List Nat × Int64} {pn : Nat} (hp : ∀ p S n ord L, g p S n (nI pn) ord L → 0 < L.length ∧ prs L n (nI pn) ∧ (nat L 0).2.2.2 = (nI pn, ord) ∧ (∀ j, 0 < j → j < L.length → ∃ m, (nat L j).2.2.2.1 = nI m ∧ n ≤ m ∧ m < n + L.length)) (hg : ∀ p S n ord L, pn < n → n + L.length ≤ 5000 → g p S n (nI pn) ord L → ∀ k, k < L.length → ndF G ad L n k) : ∀ (cs : List Nat) (n ord : Nat) (M : List nd) (as : List Nat), pn < n → n + M.length ≤ 5000 → kct G ad g u cs n (nI pn) ord M as → (∀ k, k < M.length → ndF G ad M n k) ∧ ∃ bs : List Nat, bs.length = cs.length ∧ (∀ t b : Nat, bs[t]? = some b → n ≤ b ∧ b < n + M.length ∧ ∃ a2 : Nat, as[t]? = some a2 ∧ ad b = some a2 ∧ nfl G a2 0 = some (.int (nI b))) ∧ ∀ j, j < M.length → ∀ t : Nat, (nat M j).2.2.2 = (nI pn, t) ↔ (ord ≤ t ∧ bs[t - ord]? = some (n + j)) := by
  intro cs
  induction cs with
  | nil =>
    intro n ord M as _ _ h
    obtain ⟨rfl, rfl⟩ := h
    exact ⟨fun k hk => absurd hk (Nat.not_lt_zero _), [], rfl, fun t b h => by simp at h, fun j hj => absurd hj (Nat.not_lt_zero _)⟩
  | cons c cs ih =>
    intro n ord M as hn h5 h
    obtain ⟨a0, as2, L, M2, e1, e2, e3, e4, e5, e6⟩ := h
    subst e1
    subst e2
    rw [List.length_append] at h5
    obtain ⟨p1, p2, p3, p4⟩ := hp _ _ _ _ _ e5
    obtain ⟨i1, bs, i2, i3, i4⟩ := ih _ _ _ _ (by omega) (by omega) e6
    have hL := hg _ _ _ _ _ hn (by omega) e5
    have q2 : prs M2 (n + L.length) (nI pn) := kct_prs (fun p S n ord L h => (hp p S n ord L h).2.1) _ _ _ _ _ e6
    refine ⟨fun k hk => ?_, n :: bs, by rw [List.length_cons, List.length_cons, i2], fun t b hb => ?_, fun j hj t => ?_⟩
    · rw [List.length_append] at hk
      by_cases ck : k < L.length
      · have := ndF_up (G := G) (ad := ad) (X := []) (L := L) (Y := M2) (n := n) (k := k) ck (hL k ck) (fun j hj hj2 t z => by
          simp only [List.length_nil, Nat.zero_add, List.nil_append, Nat.add_zero] at hj hj2 z
          rw [nat_app2 (by omega)] at z
          rcases q2 (j - L.length) (by omega) with y | ⟨m, y1, y2, y3⟩
          · rw [z] at y
            have := nI_ij (by omega) (by omega) y
            omega
          · rw [z] at y1
            have := nI_ij (by omega) (by omega) y1
            omega)
        simpa using this
      · obtain ⟨i, hi⟩ : ∃ i, k = L.length + i := ⟨k - L.length, by omega⟩
        subst hi
        have := ndF_up (G := G) (ad := ad) (X := L) (L := M2) (Y := []) (n := n) (k := i) (by omega) (i1 i (by omega)) (fun j hj hj2 t z => by
          simp only [List.length_nil, Nat.add_zero, List.append_nil] at hj hj2 z
          rw [nat_app1 (by omega)] at z
          rcases p2 j (by omega) with y | ⟨m, y1, y2, y3⟩
          · rw [z] at y
            have := nI_ij (by omega) (by omega) y
            omega
          · rw [z] at y1
            have := nI_ij (by omega) (by omega) y1
            omega)
        simpa using this
    · rw [List.length_append]
      cases t with
      | zero =>
        have : n = b := by simpa using hb
        subst this
        obtain ⟨a, fc, as3, bs3, r1, r2, _⟩ := hL 0 p1
        rw [Nat.add_zero, e3] at r1
        cases r1
        exact ⟨Nat.le_refl _, by omega, a0, rfl, e3, r2⟩
      | succ t =>
        obtain ⟨r1, r2, a2, r3, r4⟩ := i3 t b (by simpa using hb)
        exact ⟨by omega, by omega, a2, by simpa using r3, r4⟩
    · rw [List.length_append] at hj
      by_cases c0 : j = 0
      · subst c0
        rw [nat_app1 p1, p3]
        constructor
        · intro z
          have : ord = t := (Prod.mk.inj z).2
          subst this
          exact ⟨Nat.le_refl _, by simp⟩
        · rintro ⟨z1, z2⟩
          cases e : t - ord with
          | zero => rw [show t = ord by omega]
          | succ t2 =>
            rw [e, List.getElem?_cons_succ] at z2
            have := (i3 _ _ z2).1
            omega
      · by_cases c1 : j < L.length
        · rw [nat_app1 c1]
          obtain ⟨m, y1, y2, y3⟩ := p4 j (by omega) c1
          constructor
          · intro z
            rw [z] at y1
            have := nI_ij (by omega) (by omega) y1
            omega
          · rintro ⟨z1, z2⟩
            cases e : t - ord with
            | zero => rw [e] at z2; simp at z2; omega
            | succ t2 =>
              rw [e, List.getElem?_cons_succ] at z2
              have := (i3 _ _ z2).1
              omega
        · rw [nat_app2 (by omega), i4 (j - L.length) (by omega) t, show n + L.length + (j - L.length) = n + j by omega]
          constructor
          · rintro ⟨z1, z2⟩
            refine ⟨by omega, ?_⟩
            rw [show t - ord = t - (ord + 1) + 1 by omega, List.getElem?_cons_succ]
            exact z2
          · rintro ⟨z1, z2⟩
            cases e : t - ord with
            | zero => rw [e] at z2; simp at z2; omega
            | succ t2 =>
              rw [e, List.getElem?_cons_succ] at z2
              exact ⟨by omega, by rw [show t - (ord + 1) = t2 by omega]; exact z2⟩
theorem tnn_deep {G : ah_H} {ad : Nat → Option Nat} {A : Nat → Nat} {rl : mR} {ns f : Nat} {p : List Nat} {S : Int64} {n : Nat} {par : Int32} {ord : Nat} {L : List nd} (h : tnn G ad A rl ns f p S n par ord L) : ∀ j, 0 < j → j < L.length → ∃ m, (nat L j).2.2.2.1 = nI m ∧ n ≤ m ∧ m < n + L.length := by
  cases f with
  | zero => exact h.elim
  | succ f =>
    intro j h0 hj
    obtain ⟨a, h1, h2, h3⟩ := h
    rcases h3 with ⟨b1, b2, b3, b4, b5, b6⟩ | ⟨b1, k, fc, M, as, b2, b3, b4, b5, b6, b7, b8, b9⟩
    · subst b2
      simp at hj
      omega
    · subst b4
      obtain ⟨i, rfl⟩ : ∃ i, j = i + 1 := ⟨j - 1, by omega⟩
      rw [List.length_cons] at hj ⊢
      have e : ∀ x : nd, nat (x :: M) (i + 1) = nat M i := fun _ => rfl
      rw [e]
      have hM : prs M (n + 1) (nI n) := kct_prs (fun p S n ord L h => (tnn_prs f p S n _ ord L h).1) _ _ _ _ _ b9
      rcases hM i (by omega) with z | ⟨m, z1, z2, z3⟩
      · exact ⟨n, z, Nat.le_refl _, by omega⟩
      · exact ⟨m, z1, by omega, by omega⟩
theorem jof_pos {ns : Nat} {A : Nat → Nat} {rl : mR} {p : List Nat} {S : Int64} {k : Nat} (hw : wfp ns A rl p S) (hb : bro A rl p S = some k) : 0 < jof p k := by
  have h := bro_at (ns := ns) hb
  by_cases c : jof p k = 0
  · rw [c] at h; exact absurd h.2.2.2.1 hw.2.2.1
  · omega
theorem pds_dig {ns : Nat} {A : Nat → Nat} {rl : mR} {p : List Nat} {S : Int64} {k : Nat} (hA : ∀ x, A x ≤ 3) (hw : wfp ns A rl p S) (hb : bro A rl p S = some k) (h8 : (pds A p (jof p k)).length ≤ 8) : 0 < plv (pds A p (jof p k)) ∧ plv (pds A p (jof p k)) < 2147483648 := by
  have h := bro_at (ns := ns) hb
  have hv := pds_vp hw.1 h.2.2.1
  have hd := vpt_dig hA _ _ _ hv
  have hne : pds A p (jof p k) ≠ [] := fun z => by
    rw [z] at hv
    have hv : 0 = jof p k := hv
    have := jof_pos hw hb
    omega
  have h1 := plv_lt _ hd
  have h2 : 10 ^ (pds A p (jof p k)).length ≤ 10 ^ 8 := Nat.pow_le_pow_right (by omega) h8
  exact ⟨plv_pos hd hne, by omega⟩
theorem tnn_flat {G : ah_H} {ad : Nat → Option Nat} {A : Nat → Nat} {rl : mR} {ns : Nat} (h99 : A 99 = 0) (hA : ∀ x, A x ≤ 3) (hns : ns ≤ 24) (hg : rgo ns A rl) : ∀ (f : Nat) (p : List Nat) (S : Int64) (n : Nat) (par : Int32) (ord : Nat) (L : List nd), wfp ns A rl p S → (∀ m, n ≤ m → m < 5000 → par ≠ nI m) → n + L.length ≤ 5000 → tnn G ad A rl ns f p S n par ord L → ∀ k, k < L.length → ndF G ad L n k := by
  intro f
  induction f with
  | zero => intro p S n par ord L _ _ _ h; exact h.elim
  | succ f ih =>
    intro p S n par ord L hw hpar h5 h k0 hk0
    obtain ⟨a, h1, h2, h3⟩ := h
    rcases h3 with ⟨b1, b2, b3, b4, b5, b6⟩ | ⟨b1, k, fc, M, as, b2, b3, b4, b5, b6, b7, b8, b9⟩
    · subst b2
      have : k0 = 0 := by simp at hk0; omega
      subst this
      refine ⟨a, .null, [], [], h1, h2, Or.inl ⟨rfl, b3, b4⟩, b5, Nat.zero_le _, b6, rfl, rfl, rfl, fun t b hb => by simp at hb, fun j hj t => ?_⟩
      have : j = 0 := by simp at hj; omega
      subst this
      constructor
      · intro z
        have := (Prod.mk.inj (show (par, ord) = (nI (n + 0), t) from z)).1
        exact absurd this (hpar _ (Nat.le_add_right _ _) (by simp at h5; omega))
      · intro z; simp at z
    · have hML : L.length = M.length + 1 := by rw [b4]; simp
      have hcs : (chs A rl ns p k S).length ≤ 24 := by
        have : (chs A rl ns p k S).length ≤ (List.range ns).length := List.length_filter_le _ _
        rw [List.length_range] at this
        omega
      have hkid := fun c (hc : c ∈ chs A rl ns p k S) => kid_wfp h99 hns hg hw b2 (chs_ok.2 c hc).1 (chs_ok.2 c hc).2
      -- the children, with what they are made of
      have b10 : kct G ad (fun p S m par ord L => tnn G ad A rl ns f p S m par ord L ∧ wfp ns A rl p S) (kid A rl p k S) (chs A rl ns p k S) (n + 1) (nI n) 0 M as := by
        have key : ∀ (cs : List Nat) (m ord : Nat) (M : List nd) (as : List Nat), (∀ c, c ∈ cs → wfp ns A rl (kid A rl p k S c).1 (kid A rl p k S c).2) → kct G ad (tnn G ad A rl ns f) (kid A rl p k S) cs m (nI n) ord M as → kct G ad (fun p S m par ord L => tnn G ad A rl ns f p S m par ord L ∧ wfp ns A rl p S) (kid A rl p k S) cs m (nI n) ord M as := by
          intro cs
          induction cs with
          | nil => intro m ord M as _ h; exact h
          | cons c cs ihc =>
            intro m ord M as hc h
            obtain ⟨a0, as2, L0, M2, e1, e2, e3, e4, e5, e6⟩ := h
            exact ⟨a0, as2, L0, M2, e1, e2, e3, e4, ⟨e5, hc c (List.mem_cons_self ..)⟩, ihc _ _ _ _ (fun c h => hc c (List.mem_cons_of_mem _ h)) e6⟩
        exact key _ _ _ _ _ hkid b9
      obtain ⟨i1, bs, i2, i3, i4⟩ := kct_flat (pn := n) (fun p S m ord L h => ⟨tnn_pos h.1, (tnn_prs _ _ _ _ _ _ _ h.1).1, (tnn_prs _ _ _ _ _ _ _ h.1).2, tnn_deep h.1⟩) (fun p S m ord L hm hm5 h k hk => ih p S m (nI n) ord L h.2 (fun q hq hq2 z => by
        have := nI_ij (by omega) (by omega) z
        omega) hm5 h.1 k hk) _ _ _ _ _ (by omega) (by omega) b10
      have hMp : prs M (n + 1) (nI n) := kct_prs (fun p S n ord L h => (tnn_prs f p S n _ ord L h).1) _ _ _ _ _ b9
      subst b4
      cases k0 with
      | zero =>
        refine ⟨a, fc, as, bs, h1, h2, Or.inr ⟨rfl, b5, (pds_dig hA hw b2 b3).1, (pds_dig hA hw b2 b3).2⟩, b6, hcs, b7, b8, kct_len _ _ _ _ _ b9, i2, fun t b hb => ?_, fun j hj t => ?_⟩
        · obtain ⟨q1, q2, q3⟩ := i3 t b hb
          exact ⟨by omega, by omega, q3⟩
        · cases j with
          | zero =>
            constructor
            · intro z
              have := (Prod.mk.inj (show (par, ord) = (nI (n + 0), t) from z)).1
              exact absurd this (hpar _ (Nat.le_add_right _ _) (by omega))
            · intro z
              have := (i3 _ _ z).1
              omega
          | succ j =>
            have e : ∀ x : nd, nat (x :: M) (j + 1) = nat M j := fun _ => rfl
            rw [e, Nat.add_zero, i4 j (by omega) t, Nat.sub_zero, show n + 1 + j = n + (j + 1) by omega]
            exact ⟨fun z => z.2, fun z => ⟨Nat.zero_le _, z⟩⟩
      | succ k0 =>
        have := ndF_up (G := G) (ad := ad) (X := [(1, plv (pds A p (jof p k)), (chs A rl ns p k S).length, par, ord)]) (L := M) (Y := []) (n := n) (k := k0) (by omega) (i1 k0 (by omega)) (fun j hj hj2 t z => by
          simp only [List.length_cons, List.length_nil, Nat.zero_add, Nat.add_zero, List.append_nil] at hj hj2 z
          have hj0 : j = 0 := by omega
          subst hj0
          have := (Prod.mk.inj (show (par, ord) = (nI (n + 1 + k0), t) from z)).1
          exact absurd this (hpar _ (by omega) (by omega)))
        rw [List.append_nil, Nat.add_comm] at this
        exact this
theorem ndF_cg {G G2 : ah_H} {ad : Nat → Option Nat} {L : List nd} {n : Nat} (h : ∀ k a, k < L.length → ad (n + k) = some a → G2.1 a = G.1 a) {k : Nat} (hk : k < L.length) (hF : ndF G ad L n k) : ndF G2 ad L n k := by
  obtain ⟨a, fc, as, bs, h1, h2, h3, h4, h5, h6, h7, h8, h9, h10, h11⟩ := hF
  have e0 := h k a hk h1
  have eb : ∀ b a2, n ≤ b → b < n + L.length → ad b = some a2 → G2.1 a2 = G.1 a2 := fun b a2 q1 q2 q3 => h (b - n) a2 (by omega) (by rw [show n + (b - n) = b by omega]; exact q3)
  refine ⟨a, fc, as, bs, h1, by rw [nfl_cg e0]; exact h2, ?_, by rw [nfl_cg e0]; exact h4, h5, by rw [nfl_cg e0]; exact h6, chA_cg _ _ (fun a2 ha2 => ?_) h7, h8, h9, fun t b hb => ?_, h11⟩
  · rw [nfl_cg e0, nfl_cg e0]; exact h3
  · obtain ⟨t, ht, he⟩ := List.mem_iff_getElem.mp ha2
    have hb : bs[t]? = some bs[t] := List.getElem?_eq_getElem (by omega)
    obtain ⟨q1, q2, a3, q3, q4, q5⟩ := h10 t _ hb
    rw [List.getElem?_eq_getElem ht, he] at q3
    cases q3
    exact nfl_cg (eb _ _ q1 q2 q4)
  · obtain ⟨q1, q2, a3, q3, q4, q5⟩ := h10 t b hb
    exact ⟨q1, q2, a3, q3, q4, by rw [nfl_cg (eb _ _ q1 q2 q4)]; exact q5⟩
