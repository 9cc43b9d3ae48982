/-! the rules and their trees as the class keeps them: who owns which cell -/
def tro (D : Nat → Prop) (G : ah_H) (t e n cap : Nat) (f : Nat → Option Nat) (sz : Nat) : Prop := G.1 t = some (.inr (8, [.ref (t + 1), .int (nI sz)])) ∧ al G (t + 1) e n cap f ∧ sz ≤ n ∧ (∀ i, i < n → ∃ a fs, f i = some a ∧ G.1 a = some (.inr (0, fs)) ∧ fs.length = 11 ∧ a < G.2.1 ∧ D a) ∧ (∀ i j a, i < n → j < n → f i = some a → f j = some a → i = j) ∧ (cap = 0 → e = G.2.2.2.1) ∧ (cap ≤ 10 + n + n / 2 ∧ n ≤ 9601) ∧ (t + 1 < G.2.1 ∧ e < G.2.1) ∧ (D t ∧ D (t + 1) ∧ (D e ∨ cap = 0))
theorem tro_trb {D E : Nat → Prop} {G : ah_H} {t e n cap : Nat} {f : Nat → Option Nat} {sz : Nat} (h : tro D G t e n cap f sz) (hE : ∀ a, E a → a < G.2.1 ∧ ¬ D a) : trb E G t e n cap f sz := by
  obtain ⟨h1, h2, h3, h4, h5, h6, h7, h8, h9, h10, h11⟩ := h
  refine ⟨h1, h2, h3, fun i hi => ?_, h5, h6, h7, h8, ⟨fun z => (hE _ z).2 h9, fun z => (hE _ z).2 h10, h11.imp (fun w z => (hE _ z).2 w) id⟩, fun a ha => (hE a ha).1⟩
  obtain ⟨a, fs, a1, a2, a3, a4, a5⟩ := h4 i hi
  exact ⟨a, fs, a1, a2, a3, a4, fun z => (hE _ z).2 a5⟩
theorem trb_tro {D E : Nat → Prop} {G : ah_H} {t e n cap : Nat} {f : Nat → Option Nat} {sz : Nat} (h : trb E G t e n cap f sz) (hE : ∀ a c, G.1 a = some c → a < G.2.1 → ¬ E a → ((∃ fs, c = .inr (0, fs)) ∨ (∃ fs, c = .inr (8, fs)) ∨ (∃ fs, c = .inr (12, fs)) ∨ ∃ z, c = .inl (7, z)) → D a) : tro D G t e n cap f sz := by
  obtain ⟨h1, h2, h3, h4, h5, h6, h7, h8, h9, h10⟩ := h
  have h2' := h2
  obtain ⟨⟨mc, b2⟩, b3, b4⟩ := h2'
  refine ⟨h1, h2, h3, fun i hi => ?_, h5, h6, h7, h8, hE _ _ h1 (by omega) h9.1 (Or.inr (Or.inl ⟨_, rfl⟩)), hE _ _ b2 (by omega) h9.2.1 (Or.inr (Or.inr (Or.inl ⟨_, rfl⟩))), ?_⟩
  · obtain ⟨a, fs, a1, a2, a3, a4, a5⟩ := h4 i hi
    exact ⟨a, fs, a1, a2, a3, a4, hE _ _ a2 a4 a5 (Or.inl ⟨_, rfl⟩)⟩
  · by_cases c : cap = 0
    · exact Or.inr c
    · rw [alt_7 (by omega)] at b3
      rcases h9.2.2 with z | z
      · exact Or.inl (hE _ _ b3 (by omega) z (Or.inr (Or.inr (Or.inr ⟨_, rfl⟩))))
      · exact absurd z c
theorem tro_cg {D D2 : Nat → Prop} {G G2 : ah_H} {t e n cap : Nat} {f : Nat → Option Nat} {sz : Nat} (h : tro D G t e n cap f sz) (hD : ∀ a, D a → G2.1 a = G.1 a ∧ D2 a) (he : G2.1 G.2.2.2.1 = G.1 G.2.2.2.1) (hn : G.2.1 ≤ G2.2.1) (h22 : G2.2.2.2 = G.2.2.2) : tro D2 G2 t e n cap f sz := by
  obtain ⟨h1, ⟨⟨mc, b2⟩, b3, b4⟩, h3, h4, h5, h6, h7, h8, h9, h10, h11⟩ := h
  refine ⟨by rw [(hD _ h9).1]; exact h1, ⟨⟨mc, by rw [(hD _ h10).1]; exact b2⟩, ?_, b4⟩, h3, fun i hi => ?_, h5, by rw [h22]; exact h6, h7, ⟨by omega, by omega⟩, (hD _ h9).2, (hD _ h10).2, h11.imp (fun w => (hD _ w).2) id⟩
  · rcases h11 with z | z
    · rw [(hD _ z).1]; exact b3
    · rw [h6 z] at b3 ⊢
      rw [he]; exact b3
  · obtain ⟨a, fs, a1, a2, a3, a4, a5⟩ := h4 i hi
    exact ⟨a, fs, a1, by rw [(hD _ a5).1]; exact a2, a3, by omega, (hD _ a5).2⟩
theorem nod_mono {E E2 : Nat → Prop} {G : ah_H} {A : Nat → Nat} {rl : mR} {ns : Nat} (hE : ∀ a, E a → E2 a) : ∀ (f n : Nat) (p : List Nat) (S : Int64), nod E G A rl ns f n p S → nod E2 G A rl ns f n p S := by
  intro f
  induction f with
  | zero => intro n p S h; exact h.elim
  | succ f ih =>
    intro n p S h
    obtain ⟨h1, h2⟩ := h
    refine ⟨hE n h1, ?_⟩
    by_cases c : isl A rl p S = true
    · rw [if_pos c] at h2 ⊢; exact h2
    · rw [if_neg c] at h2 ⊢
      obtain ⟨k, fc, k1, k2, k3, k4, k5⟩ := h2
      exact ⟨k, fc, k1, k2, k3, k4, kch_cg (fun a p S hg => ⟨ih a p S hg, rfl⟩) _ _ k5⟩
def trc (G : ah_H) (ro : Nat → Nat) (t n cap : Nat) (C : (Nat → Option Nat) → Nat → Prop) : Prop := ∃ e ad sz, tro (fun a => ro a = 10 + t) G t e n cap ad sz ∧ C ad sz
/-- what a function's tree holds -/
def cnt (G : ah_H) (ro : Nat → Nat) (A : Nat → Nat) (ns : Nat) (rl : mR) (f t : Nat) (ad : Nat → Option Nat) (sz : Nat) : Prop := (rof rl f = 0 → sz = 0) ∧ (rof rl f ≠ 0 → ∃ L a, ltr A rl ns f = some L ∧ sz = L.length ∧ 0 < L.length ∧ ad 0 = some a ∧ nod (fun a => ro a = 10 + t) G A rl ns 120 a (bgn A f) (rof rl f) ∧ ∀ k, k < L.length → ndF G ad L 0 k)
theorem cnt_cg {G G2 : ah_H} {ro ro2 : Nat → Nat} {A : Nat → Nat} {ns : Nat} {rl : mR} {f t e n cap : Nat} {ad : Nat → Option Nat} {sz : Nat} (ht : tro (fun a => ro a = 10 + t) G t e n cap ad sz) (hD : ∀ a, ro a = 10 + t → G2.1 a = G.1 a ∧ ro2 a = 10 + t) (h : cnt G ro A ns rl f t ad sz) : cnt G2 ro2 A ns rl f t ad sz := by
  refine ⟨h.1, fun z => ?_⟩
  obtain ⟨L, a, h1, h2, h3, h4, h5, h6⟩ := h.2 z
  refine ⟨L, a, h1, h2, h3, h4, nod_mono (fun a ha => (hD a ha).2) _ _ _ _ (nod_cg (fun a ha => (hD a ha).1) _ _ _ _ h5), fun k hk => ndF_cg (fun j b hj hb => ?_) hk (h6 k hk)⟩
  obtain ⟨b2, fs, c1, c2, c3, c4, c5⟩ := ht.2.2.2.1 (0 + j) (by have := ht.2.2.1; omega)
  rw [hb] at c1
  cases c1
  exact (hD b c5).1
def cnT (tf : Nat → Option Nat) : Nat := ((List.range 24).filter (fun f => (tf f).isSome)).length
def rsK (G : ah_H) (x : Nat) (A : Nat → Nat) (ns : Nat) (rl : mR) (ro : Nat → Nat) (sp : Nat) (lf tf : Nat → Option Nat) (T : List Nat) (nn cc : Nat → Nat) : Prop := (G.1 (x + 6) = some (.inr (5, [.ref (x + 7), .ref (x + 8), .ref (x + 11), .ref sp, .int (nI rl.length)])) ∧ G.1 (x + 7) = some (.inl (3, 40, .inr (.inr (.inr (.inr lf))))) ∧ G.1 (x + 8) = some (.inl (4, 24, .inr (.inr (.inr (.inr tf))))) ∧ tmk G x ∧ (∃ l, pat G x l) ∧ ∃ f1, G.1 (x + 14) = some (.inl (1, 120, .inl f1))) ∧ (∀ r, r < rl.length → ∃ a, lf r = some a ∧ rul (fun a => ro a = 2) G a (lft rl r) ((rat rl r).1.drop (rat rl r).2)) ∧ (T.Nodup ∧ sp ∈ T ∧ T.length = 1 + cnT tf ∧ ∀ f t, f < 24 → tf f = some t → t ∈ T ∧ t ≠ sp ∧ ∀ f2, f2 < 24 → tf f2 = some t → f2 = f) ∧ trc G ro sp (nn sp) (cc sp) (fun _ _ => True) ∧ (∀ f, f < 24 → (tf f = none → rof rl f = 0) ∧ ∀ t, tf f = some t → trc G ro t (nn t) (cc t) (cnt G ro A ns rl f t)) ∧ ∀ t, t ∈ T → t < G.2.1
/-- cells that the rules and their trees are -/
def rsc (x : Nat) (ro : Nat → Nat) (a : Nat) : Prop := (x + 6 ≤ a ∧ a ≤ x + 8) ∨ (x + 11 ≤ a ∧ a ≤ x + 14) ∨ 2 ≤ ro a
theorem rsK_cg {G G2 : ah_H} {x : Nat} {A : Nat → Nat} {ns : Nat} {rl : mR} {ro ro2 : Nat → Nat} {sp : Nat} {lf tf : Nat → Option Nat} {T : List Nat} {nn cc : Nat → Nat} (h : rsK G x A ns rl ro sp lf tf T nn cc) (hc : ∀ a, rsc x ro a → G2.1 a = G.1 a) (hr : ∀ a, 2 ≤ ro a → ro2 a = ro a) (he : G2.1 G.2.2.2.1 = G.1 G.2.2.2.1) (hn : G.2.1 ≤ G2.2.1) (h22 : G2.2.2.2 = G.2.2.2) : rsK G2 x A ns rl ro2 sp lf tf T nn cc := by
  obtain ⟨⟨c6, c7, c8, c11, ⟨l, c12⟩, f1, c14⟩, hru, hT, hsp, hf, hTn⟩ := h
  have hx : ∀ a, (x + 6 ≤ a ∧ a ≤ x + 8) ∨ (x + 11 ≤ a ∧ a ≤ x + 14) → G2.1 a = G.1 a := fun a ha => hc a (ha.imp id Or.inl)
  have hD : ∀ t a, ro a = 10 + t → G2.1 a = G.1 a ∧ ro2 a = 10 + t := fun t a ha => ⟨hc a (Or.inr (Or.inr (by omega))), by rw [hr a (by omega)]; exact ha⟩
  refine ⟨⟨by rw [hx _ (by omega)]; exact c6, by rw [hx _ (by omega)]; exact c7, by rw [hx _ (by omega)]; exact c8, by unfold tmk; rw [hx _ (by omega)]; exact c11, ⟨l, ?_⟩, f1, by rw [hx _ (by omega)]; exact c14⟩, fun r hr2 => ?_, hT, ?_, fun f hf2 => ⟨(hf f hf2).1, fun t ht => ?_⟩, fun t ht => by have := hTn t ht; omega⟩
  · obtain ⟨g, ⟨p1, p2⟩, p3⟩ := c12
    exact ⟨g, ⟨by rw [hx _ (by omega)]; exact p1, by rw [hx _ (by omega)]; exact p2⟩, p3⟩
  · obtain ⟨a, a1, a2⟩ := hru r hr2
    refine ⟨a, a1, ?_⟩
    have a3 := rul_cg (fun a ha => hc a (Or.inr (Or.inr (by have : ro a = 2 := ha; omega)))) a2
    obtain ⟨e0, e1, e2, e3, e4, h1⟩ := a3
    have k : ∀ a, ro a = 2 → ro2 a = 2 := fun a ha => by rw [hr a (by omega)]; exact ha
    exact ⟨k _ e0, k _ e1, k _ e2, k _ e3, k _ e4, h1⟩
  · obtain ⟨e, ad, sz, h1, h2⟩ := hsp
    exact ⟨e, ad, sz, tro_cg h1 (hD sp) he hn h22, h2⟩
  · obtain ⟨e, ad, sz, h1, h2⟩ := (hf f hf2).2 t ht
    exact ⟨e, ad, sz, tro_cg h1 (hD t) he hn h22, cnt_cg h1 (hD t) h2⟩
theorem ltr_rof {A : Nat → Nat} {rl : mR} {ns f : Nat} {L : List nd} (h : ltr A rl ns f = some L) : rof rl f ≠ 0 := fun z => by unfold ltr at h; rw [if_pos z] at h; cases h
/-- a symbol more -/
theorem rsK_sym {G : ah_H} {x : Nat} {A A2 : Nat → Nat} {ns : Nat} {rl : mR} {ro : Nat → Nat} {sp : Nat} {lf tf : Nat → Option Nat} {T : List Nat} {nn cc : Nat → Nat} (h99 : A 99 = 0) (hx : ext ns A rl (ns + 1) A2 rl) (hg : rgo ns A rl) (h : rsK G x A ns rl ro sp lf tf T nn cc) : rsK G x A2 (ns + 1) rl ro sp lf tf T nn cc := by
  obtain ⟨h1, h2, h3, h4, h5, h6⟩ := h
  refine ⟨h1, h2, h3, h4, fun f hf => ⟨(h5 f hf).1, fun t ht => ?_⟩, h6⟩
  obtain ⟨e, ad, sz, k1, k2, k3⟩ := (h5 f hf).2 t ht
  refine ⟨e, ad, sz, k1, k2, fun z => ?_⟩
  obtain ⟨L, a, m1, m2, m3, m4, m5, m6⟩ := k3 z
  have hfn : f < ns := by
    by_cases c : f < ns
    · exact c
    · exact absurd (rof_ge hg (by omega) (by omega)) z
  have hns : ns ≤ 24 := by have := hx.2.1; omega
  have hw := bgn_wfp h99 hns hg hfn z
  refine ⟨L, a, ?_, m2, m3, m4, ?_, m6⟩
  · unfold ltr at m1 ⊢
    rw [if_neg z] at m1 ⊢
    rw [bgn_ext hx hfn, ext_lay h99 hx hg _ _ _ _ _ _ hw]
    exact m1
  · rw [bgn_ext hx hfn]
    exact nod_ext h99 hx hg _ _ _ _ hw m5
/-- as the solver reads it -/
theorem rsK_rlk {E : Nat → Prop} {G : ah_H} {x : Nat} {A : Nat → Nat} {ns : Nat} {rl : mR} {ro : Nat → Nat} {sp : Nat} {lf tf : Nat → Option Nat} {T : List Nat} {nn cc : Nat → Nat} (hns : ns ≤ 24) (hE : ∀ a, rsc x ro a → E a) (hea : E G.2.2.2.1) (h : rsK G x A ns rl ro sp lf tf T nn cc) : rlk E G x A ns rl := by
  obtain ⟨⟨c6, c7, c8, c11, c12, c14⟩, hru, hT, hsp, hf, -⟩ := h
  have hD : ∀ t a, ro a = 10 + t → E a := fun t a ha => hE a (Or.inr (Or.inr (by omega)))
  have htr : ∀ t e n cap ad sz, tro (fun a => ro a = 10 + t) G t e n cap ad sz → tre E G t e n cap ad sz := fun t e n cap ad sz h => by
    obtain ⟨h1, h2, h3, h4, h5, h6, h7, h8, h9, h10, h11⟩ := h
    refine ⟨hD t _ h9, hD t _ h10, ?_, h1, h2, h3, fun i hi => ?_⟩
    · rcases h11 with z | z
      · exact hD t _ z
      · rw [h6 z]; exact hea
    · obtain ⟨a, fs, a1, a2, a3, a4, a5⟩ := h4 i hi
      exact ⟨a, fs, a1, hD t _ a5, a2⟩
  refine ⟨hE _ (Or.inl (by omega)), hE _ (Or.inl (by omega)), hE _ (Or.inl (by omega)), sp, lf, tf, c6, c7, c8, fun r hr => ?_, fun f hfn => ⟨fun z => ?_, fun z => ?_⟩⟩
  · obtain ⟨a, a1, e0, e1, e2, e3, e4, a2⟩ := hru r hr
    have k : ∀ a, ro a = 2 → E a := fun a ha => hE a (Or.inr (Or.inr (by omega)))
    exact ⟨a, a1, k _ e0, k _ e1, k _ e2, k _ e3, k _ e4, a2⟩
  · cases htf : tf f with
    | none => exact absurd ((hf f (by omega)).1 htf) z
    | some t =>
      obtain ⟨e, ad, sz, h1, h2, h3⟩ := (hf f (by omega)).2 t htf
      obtain ⟨L, a, m1, m2, m3, m4, m5, m6⟩ := h3 z
      exact ⟨t, e, nn t, cc t, ad, sz, a, rfl, htr _ _ _ _ _ _ h1, by omega, m4, nod_mono (hD t) _ _ _ _ m5⟩
  · cases htf : tf f with
    | none => exact Or.inl rfl
    | some t =>
      obtain ⟨e, ad, sz, h1, h2, h3⟩ := (hf f (by omega)).2 t htf
      have := h2 z
      subst this
      exact Or.inr ⟨t, e, nn t, cc t, ad, rfl, htr _ _ _ _ _ _ h1⟩
