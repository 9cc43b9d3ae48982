/-! trees that are there; leaves -/
def tok (A : Nat → Nat) (rl : mR) (ns : Nat) (p : List Nat) (S : Int64) : Prop := ∃ f n par ord L, lay A rl ns f p S n par ord = some L
theorem layL_each {g : List Nat → Int64 → Nat → Int32 → Nat → Option (List nd)} {u : Nat → List Nat × Int64} : ∀ (cs : List Nat) (n : Nat) (par : Int32) (ord : Nat) (M : List nd), layL g u cs n par ord = some M → ∀ c, c ∈ cs → ∃ n par ord L, g (u c).1 (u c).2 n par ord = some L := by
  intro cs
  induction cs with
  | nil => intro n par ord M _ c hc; cases hc
  | cons x cs ih =>
    intro n par ord M h c hc
    simp only [layL] at h
    cases e : g (u x).1 (u x).2 n par ord with
    | none => rw [e] at h; cases h
    | some L =>
      rw [e] at h
      dsimp only at h
      cases e2 : layL g u cs (n + L.length) par (ord + 1) with
      | none => rw [e2] at h; cases h
      | some N =>
        rcases List.mem_cons.mp hc with z | z
        · subst z; exact ⟨_, _, _, L, e⟩
        · exact ih _ _ _ _ e2 c z
theorem tok_kids {A : Nat → Nat} {rl : mR} {ns : Nat} {p : List Nat} {S : Int64} (h : tok A rl ns p S) (hl : ¬ isl A rl p S = true) : ∃ k, bro A rl p S = some k ∧ (pds A p (jof p k)).length ≤ 8 ∧ ∀ c, c ∈ chs A rl ns p k S → tok A rl ns (kid A rl p k S c).1 (kid A rl p k S c).2 := by
  obtain ⟨f, n, par, ord, L, h⟩ := h
  cases f with
  | zero => cases h
  | succ f =>
    simp only [lay] at h
    rw [if_neg hl] at h
    cases e : bro A rl p S with
    | none => rw [e] at h; cases h
    | some k =>
      rw [e] at h
      dsimp only at h
      by_cases c2 : 8 < (pds A p (jof p k)).length
      · rw [if_pos c2] at h; cases h
      · rw [if_neg c2] at h
        cases e2 : layL (lay A rl ns f) (kid A rl p k S) (chs A rl ns p k S) (n + 1) (nI n) 0 with
        | none => rw [e2] at h; cases h
        | some M =>
          refine ⟨k, rfl, by omega, fun c hc => ?_⟩
          obtain ⟨n', par', ord', L', h'⟩ := layL_each _ _ _ _ _ e2 c hc
          exact ⟨f, n', par', ord', L', h'⟩
/-- a leaf's pattern is its rule's left side -/
theorem leaf_hpl {ns : Nat} {A : Nat → Nat} {rl : mR} {p : List Nat} {S : Int64} (hns : ns ≤ 24) (h0 : ∀ x, ns ≤ x → A x = 0) (hg : rgo ns A rl) (hw : wfp ns A rl p S) (hl : isl A rl p S = true) : fsr S < rl.length ∧ mem S (fsr S) = true ∧ hpl ((rat rl (fsr S)).1.take (rat rl (fsr S)).2) = p := by
  have hr40 := hg.1
  obtain ⟨r0, hr0, hm0, _⟩ := wfp_mem hw
  obtain ⟨w1, w2, w3, w4, w5, w6⟩ := hw
  obtain ⟨f1, f2, f3⟩ := fsr_of hm0 (by omega)
  have f4 := w5 _ f2 f1
  refine ⟨f4, f1, ?_⟩
  unfold isl at hl
  simp only [Bool.and_eq_true, decide_eq_true_eq] at hl
  obtain ⟨l1, l2⟩ := hl
  have hb : bro A rl p S = none := by
    cases e : bro A rl p S with
    | none => rfl
    | some k => rw [e] at l2; cases l2
  have hm := w4 _ f4 f1
  obtain ⟨g1, g2, g3, g4⟩ := hg.2 _ f4
  have hvar : ∀ i, i < p.length → p.getD i 0 = 99 → 100 ≤ (rat rl (fsr S)).1.getD (wlk A (rat rl (fsr S)).1 (p.take i) 0) 0 := by
    intro i hi h9
    have hx := hix_all p i hi h9
    have hk : hol (p.take i) < hol p := by
      rcases Nat.lt_or_ge (hol (p.take i)) (hol p) with z | z
      · exact z
      · have := (hix_none p (hol (p.take i))).mpr z
        rw [hx] at this; cases this
    have h1 := (fdF_none _ _ _).mp hb (hol (p.take i)) (by omega) (by omega)
    rw [← Bool.not_eq_true, alF_iff] at h1
    have h2 : ∃ r, r < rl.length ∧ mem S r = true ∧ ¬ vat A rl p (hol (p.take i)) r < 100 := by
      apply Classical.byContradiction
      intro hn
      apply h1
      intro r hr1 hr2
      cases e : mem S r with
      | false => rfl
      | true =>
        have : vat A rl p (hol (p.take i)) r < 100 := by
          apply Classical.byContradiction
          intro z
          exact hn ⟨r, by omega, e, z⟩
        simp [this]
    obtain ⟨r, hr1, hr2, hr3⟩ := h2
    have er : r = fsr S := by
      rw [l1, msk_bit f2 (by omega)] at hr2
      exact of_decide_eq_true hr2
    subst er
    rw [vat_wlk hx] at hr3
    omega
  have hwk : ∀ i, i ≤ p.length → wlk A (rat rl (fsr S)).1 (p.take i) 0 = i := by
    intro i
    induction i with
    | zero => intro _; rfl
    | succ i ih =>
      intro hi
      have i1 := ih (by omega)
      have hi2 : i < p.length := by omega
      rw [wlk_succ hi2, i1]
      by_cases c : p.getD i 0 = 99
      · rw [if_pos c]
        have v1 := hvar i hi2 c
        rw [i1] at v1
        have hlt := (mtc_at hm hi2).1
        rw [i1] at hlt
        obtain ⟨m, r1, r2⟩ := rn_drop i 2 g3 (by omega)
        obtain ⟨m', rfl⟩ : ∃ m', m = m' + 1 := ⟨m - 1, by have := r2 hlt; omega⟩
        have := (te_args r1).1
        rw [h0 _ (by omega)] at this
        exact this
      · rw [if_neg c]
  have hte : te A p 0 = p.length := by
    obtain ⟨t1, t2, t3, t4, t5⟩ := rn_te (A := A) (l := p) (i := 0) (m := 0) (by simpa using w1)
    rcases Nat.lt_or_ge (te A p 0) p.length with z | z
    · rw [drop_cons z] at t5
      have := (rn_pos t5).1
      omega
    · omega
  have hls : (rat rl (fsr S)).2 = p.length := by
    have h99 := h0 99 (by omega)
    have := wlk_te (A := A) (l := (rat rl (fsr S)).1) (p := p) (i0 := 0) (a := 0) (m := 0) (m2 := 1) h99 hm (by simpa using w1) (by simpa [wlk] using g3)
    rw [hte, hwk _ (Nat.le_refl _)] at this
    rw [g4, this]
    rfl
  have hpl2 : p.length ≤ (rat rl (fsr S)).1.length := by
    have := wlk_adv _ _ hm
    omega
  rw [hls]
  apply List.ext_getElem?
  intro i
  unfold hpl
  rw [List.getElem?_map]
  by_cases c : i < p.length
  · rw [List.getElem?_take_of_lt c]
    have h1 := mtc_at hm c
    rw [hwk i (by omega)] at h1
    have e1 : (rat rl (fsr S)).1[i]? = some ((rat rl (fsr S)).1.getD i 0) := by rw [List.getD_eq_getElem?_getD, List.getElem?_eq_getElem h1.1]; rfl
    have e2 : p[i]? = some (p.getD i 0) := by rw [List.getD_eq_getElem?_getD, List.getElem?_eq_getElem c]; rfl
    rw [e1, e2, Option.map_some]
    congr 1
    by_cases c9 : p.getD i 0 = 99
    · have v1 := hvar i c c9
      rw [hwk i (by omega)] at v1
      rw [if_pos v1, c9]
    · have h2 := h1.2 c9
      have h3 := w2 i c
      rw [if_neg (by omega), h2]
  · rw [List.getElem?_eq_none (by rw [List.length_take]; omega), List.getElem?_eq_none (by omega)]
    rfl
