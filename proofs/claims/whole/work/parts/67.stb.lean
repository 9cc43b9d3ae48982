/-! what stays when symbols and rules are added -/
def ext (ns : Nat) (A : Nat → Nat) (rl : mR) (ns2 : Nat) (A2 : Nat → Nat) (rl2 : mR) : Prop := ns ≤ ns2 ∧ ns2 ≤ 24 ∧ (∀ x, x < ns ∨ 99 ≤ x → A2 x = A x) ∧ rl.length ≤ rl2.length ∧ rl2.length ≤ 40 ∧ ∀ r, r < rl.length → rat rl2 r = rat rl r
theorem tl_agr {A A2 : Nat → Nat} {l : List Nat} (h : ∀ i, i < l.length → A2 (l.getD i 0) = A (l.getD i 0)) : ∀ (k ms i : Nat), tl A2 l k ms i = tl A l k ms i := by
  intro k
  induction k with
  | zero => intro ms i; rfl
  | succ k ih =>
    intro ms i
    simp only [tl]
    by_cases c : ms = 0
    · rw [if_pos c, if_pos c]
    · rw [if_neg c, if_neg c]
      by_cases c2 : i < l.length
      · rw [if_pos c2, if_pos c2, h i c2, ih]
      · rw [if_neg c2, if_neg c2]
theorem te_agr {A A2 : Nat → Nat} {l : List Nat} (h : ∀ i, i < l.length → A2 (l.getD i 0) = A (l.getD i 0)) (i : Nat) : te A2 l i = te A l i := tl_agr h _ _ _
theorem rn_agr {A A2 : Nat → Nat} : ∀ (l : List Nat) (n : Nat), (∀ i, i < l.length → A2 (l.getD i 0) = A (l.getD i 0)) → rn A2 l n = rn A l n := by
  intro l
  induction l with
  | nil => intro n _; rfl
  | cons x l ih =>
    intro n h
    have h0 : A2 x = A x := h 0 (by simp)
    have h1 : ∀ i, i < l.length → A2 (l.getD i 0) = A (l.getD i 0) := fun i hi => h (i + 1) (by simp only [List.length_cons]; omega)
    simp only [rn, h0, ih _ h1]
theorem loc_agr {A A2 : Nat → Nat} {l : List Nat} (h : ∀ i, te A2 l i = te A l i) : ∀ (p : List Nat) (k i : Nat), loc A2 l p k i = loc A l p k i := by
  intro p
  induction p with
  | nil => intro k i; rfl
  | cons x p ih => intro k i; simp only [loc, h, ih]
theorem mtc_agr {A A2 : Nat → Nat} {l : List Nat} (h : ∀ i, te A2 l i = te A l i) : ∀ (p : List Nat) (i : Nat), mtc A2 l p i = mtc A l p i := by
  intro p
  induction p with
  | nil => intro i; rfl
  | cons x p ih => intro i; simp only [mtc, h, ih]
theorem stk_agr {A A2 : Nat → Nat} {p : List Nat} (h : ∀ i, i < p.length → A2 (p.getD i 0) = A (p.getD i 0)) : ∀ j, j ≤ p.length → stk A2 p j = stk A p j := by
  intro j
  induction j with
  | zero => intro _; rfl
  | succ j ih => intro hj; simp only [stk, stp, ih (by omega), h j (by omega)]
theorem kn1_agr {ns : Nat} {A A2 : Nat → Nat} (h : ∀ x, x < ns ∨ 99 ≤ x → A2 x = A x) {l : List Nat} (hk : kn1 ns l) : ∀ i, i < l.length → A2 (l.getD i 0) = A (l.getD i 0) := fun i hi => h _ (by have := hk i hi; omega)
theorem kn1_mono {ns ns2 : Nat} (h : ns ≤ ns2) {l : List Nat} (hk : kn1 ns l) : kn1 ns2 l := fun i hi => by have := hk i hi; omega
theorem ext_vat {ns : Nat} {A : Nat → Nat} {rl : mR} {ns2 : Nat} {A2 : Nat → Nat} {rl2 : mR} (h : ext ns A rl ns2 A2 rl2) (hg : rgo ns A rl) {p : List Nat} {k r : Nat} (hr : r < rl.length) : vat A2 rl2 p k r = vat A rl p k r := by
  unfold vat
  rw [h.2.2.2.2.2 r hr, loc_agr (te_agr (kn1_agr h.2.2.1 (hg.2 r hr).2.1))]
theorem ext_bro {ns : Nat} {A : Nat → Nat} {rl : mR} {ns2 : Nat} {A2 : Nat → Nat} {rl2 : mR} (h : ext ns A rl ns2 A2 rl2) (hg : rgo ns A rl) {p : List Nat} {S : Int64} (hS : sub rl S) : bro A2 rl2 p S = bro A rl p S := by
  unfold bro
  congr 1
  funext k
  rw [Bool.eq_iff_iff, alF_iff, alF_iff]
  constructor
  · intro h1 j hj hj2
    have := h1 j hj (by have := h.2.2.2.1; omega)
    rw [ext_vat h hg (by omega)] at this
    exact this
  · intro h1 j hj hj2
    by_cases c : j < rl.length
    · rw [ext_vat h hg c]; exact h1 j hj (by omega)
    · have h64 : j < 64 := by have := h.2.2.2.2.1; omega
      cases e : mem S j with
      | false => rfl
      | true => exact absurd (hS j h64 e) c
theorem ext_wia {ns : Nat} {A : Nat → Nat} {rl : mR} {ns2 : Nat} {A2 : Nat → Nat} {rl2 : mR} (h : ext ns A rl ns2 A2 rl2) (hg : rgo ns A rl) {p : List Nat} {k c : Nat} {S : Int64} (hS : sub rl S) : wia A2 rl2 p k S c = wia A rl p k S c := by
  apply mem_ext
  intro r hr
  rw [mem_wia h.2.2.2.2.1 hr, mem_wia hg.1 hr]
  by_cases c1 : r < rl.length
  · rw [ext_vat h hg c1]
    have := h.2.2.2.1
    simp [c1, show r < rl2.length by omega]
  · cases e : mem S r with
    | false => simp
    | true => exact absurd (hS r hr e) c1
theorem ext_isl {ns : Nat} {A : Nat → Nat} {rl : mR} {ns2 : Nat} {A2 : Nat → Nat} {rl2 : mR} (h : ext ns A rl ns2 A2 rl2) (hg : rgo ns A rl) {p : List Nat} {S : Int64} (hS : sub rl S) : isl A2 rl2 p S = isl A rl p S := by
  unfold isl
  rw [ext_bro h hg hS]
theorem wfp_agr {ns : Nat} {A : Nat → Nat} {rl : mR} {ns2 : Nat} {A2 : Nat → Nat} {rl2 : mR} (h : ext ns A rl ns2 A2 rl2) {p : List Nat} {S : Int64} (hw : wfp ns A rl p S) : ∀ i, i < p.length → A2 (p.getD i 0) = A (p.getD i 0) := fun i hi => h.2.2.1 _ (by have := hw.2.1 i hi; omega)
theorem ext_pds {ns : Nat} {A : Nat → Nat} {rl : mR} {ns2 : Nat} {A2 : Nat → Nat} {rl2 : mR} (h : ext ns A rl ns2 A2 rl2) {p : List Nat} {S : Int64} (hw : wfp ns A rl p S) {k : Nat} (hb : bro A rl p S = some k) : pds A2 p (jof p k) = pds A p (jof p k) := by
  unfold pds
  rw [stk_agr (wfp_agr h hw) _ (by have := (bro_at (ns := ns) hb).2.2.1; omega)]
theorem wia_ge {ns : Nat} {A : Nat → Nat} {rl : mR} (hg : rgo ns A rl) {p : List Nat} {S : Int64} (hw : wfp ns A rl p S) {k c : Nat} (hb : bro A rl p S = some k) (hc : ns ≤ c) : wia A rl p k S c = 0 := by
  apply mem_ext
  intro r hr
  rw [mem_wia hg.1 hr, mem_zero hr]
  by_cases c1 : r < rl.length
  · by_cases c2 : mem S r = true
    · have := vat_ns hg hw hb c1 c2
      simp [show vat A rl p k r ≠ c by omega]
    · simp [c2]
  · simp [c1]
theorem ext_chs {ns : Nat} {A : Nat → Nat} {rl : mR} {ns2 : Nat} {A2 : Nat → Nat} {rl2 : mR} (h : ext ns A rl ns2 A2 rl2) (hg : rgo ns A rl) {p : List Nat} {S : Int64} (hw : wfp ns A rl p S) {k : Nat} (hb : bro A rl p S = some k) : chs A2 rl2 ns2 p k S = chs A rl ns p k S := by
  unfold chs
  have e : ∀ m, ((List.range (ns + m)).filter fun c => decide (wia A rl p k S c ≠ 0)) = (List.range ns).filter fun c => decide (wia A rl p k S c ≠ 0) := by
    intro m
    induction m with
    | zero => rfl
    | succ m ih => rw [← Nat.add_assoc, List.range_succ, List.filter_append, ih, List.filter_cons_of_neg (by rw [wia_ge hg hw hb (by omega)]; simp), List.filter_nil, List.append_nil]
  rw [← e (ns2 - ns), show ns + (ns2 - ns) = ns2 by have := h.1; omega]
  congr 1
  funext c
  rw [ext_wia h hg hw.2.2.2.2.1]
theorem ext_kid {ns : Nat} {A : Nat → Nat} {rl : mR} {ns2 : Nat} {A2 : Nat → Nat} {rl2 : mR} (h : ext ns A rl ns2 A2 rl2) (hg : rgo ns A rl) {p : List Nat} {S : Int64} (hw : wfp ns A rl p S) {k c : Nat} (hc : c < ns) : kid A2 rl2 p k S c = kid A rl p k S c := by
  unfold kid rfa
  rw [ext_wia h hg hw.2.2.2.2.1, h.2.2.1 c (Or.inl hc)]
theorem layL_ext {g g2 : List Nat → Int64 → Nat → Int32 → Nat → Option (List nd)} {u u2 : Nat → List Nat × Int64} : ∀ (cs : List Nat) (n : Nat) (par : Int32) (ord : Nat), (∀ c, c ∈ cs → u2 c = u c ∧ ∀ n par ord, g2 (u c).1 (u c).2 n par ord = g (u c).1 (u c).2 n par ord) → layL g2 u2 cs n par ord = layL g u cs n par ord := by
  intro cs
  induction cs with
  | nil => intro n par ord _; rfl
  | cons c cs ih =>
    intro n par ord h
    obtain ⟨h1, h2⟩ := h c (List.mem_cons_self ..)
    have h3 := fun n par ord => ih n par ord (fun c hc => h c (List.mem_cons_of_mem _ hc))
    simp only [layL, h1, h2, h3]
theorem ext_lay {ns : Nat} {A : Nat → Nat} {rl : mR} {ns2 : Nat} {A2 : Nat → Nat} {rl2 : mR} (h99 : A 99 = 0) (h : ext ns A rl ns2 A2 rl2) (hg : rgo ns A rl) : ∀ (f : Nat) (p : List Nat) (S : Int64) (n : Nat) (par : Int32) (ord : Nat), wfp ns A rl p S → lay A2 rl2 ns2 f p S n par ord = lay A rl ns f p S n par ord := by
  intro f
  induction f with
  | zero => intros; rfl
  | succ f ih =>
    intro p S n par ord hw
    simp only [lay]
    rw [ext_isl h hg hw.2.2.2.2.1, ext_bro h hg hw.2.2.2.2.1]
    by_cases c : isl A rl p S = true
    · rw [if_pos c, if_pos c]
    · rw [if_neg c, if_neg c]
      cases e : bro A rl p S with
      | none => rfl
      | some k =>
        dsimp only
        rw [ext_pds h hw e, ext_chs h hg hw e]
        rw [layL_ext (g := lay A rl ns f) (u := kid A rl p k S) _ _ _ _ (fun c hc => ⟨ext_kid h hg hw (chs_ok.2 c hc).1, fun n par ord => ih _ _ n par ord (kid_wfp h99 (by have := h.1; have := h.2.1; omega) hg hw e (chs_ok.2 c hc).1 (chs_ok.2 c hc).2)⟩)]
theorem ext_rgo {ns : Nat} {A : Nat → Nat} {ns2 : Nat} {A2 : Nat → Nat} {rl : mR} (h : ext ns A rl ns2 A2 rl) (hg : rgo ns A rl) : rgo ns2 A2 rl := ⟨hg.1, fun r hr => by
  obtain ⟨h1, h2, h3, h4⟩ := hg.2 r hr
  exact ⟨h1, kn1_mono h.1 h2, by rw [rn_agr _ _ (kn1_agr h.2.2.1 h2)]; exact h3, by rw [te_agr (kn1_agr h.2.2.1 h2)]; exact h4⟩⟩
theorem rof_app {rl : mR} {x : List Nat × Nat} {f : Nat} (h : rl.length < 40) (hx : x.1.getD 0 0 ≠ f) : rof (rl ++ [x]) f = rof rl f := by
  apply mem_ext
  intro r hr
  rw [mem_rof (by simp; omega) hr, mem_rof (by omega) hr]
  by_cases c : r < rl.length
  · rw [rat_app1 c]
    simp [c, show r < rl.length + 1 by omega]
  · by_cases c2 : r = rl.length
    · subst c2
      rw [rat_app2, decide_eq_false hx, Bool.and_false, decide_eq_false c, Bool.false_and]
    · simp [c, show ¬ r < rl.length + 1 by omega]
theorem ext_app {ns : Nat} {A : Nat → Nat} {rl : mR} {x : List Nat × Nat} (hns : ns ≤ 24) (h : rl.length < 40) : ext ns A rl ns A (rl ++ [x]) := ⟨Nat.le_refl _, hns, fun _ _ => rfl, by simp, by simp; omega, fun r hr => rat_app1 hr⟩
theorem bgn_ext {ns : Nat} {A : Nat → Nat} {rl : mR} {ns2 : Nat} {A2 : Nat → Nat} {rl2 : mR} (h : ext ns A rl ns2 A2 rl2) {f : Nat} (hf : f < ns) : bgn A2 f = bgn A f := by unfold bgn; rw [h.2.2.1 f (Or.inl hf)]
theorem ext_tok {ns : Nat} {A : Nat → Nat} {rl : mR} {ns2 : Nat} {A2 : Nat → Nat} {rl2 : mR} (h99 : A 99 = 0) (h : ext ns A rl ns2 A2 rl2) (hg : rgo ns A rl) {p : List Nat} {S : Int64} (hw : wfp ns A rl p S) (ht : tok A rl ns p S) : tok A2 rl2 ns2 p S := by
  obtain ⟨f, n, par, ord, L, hL⟩ := ht
  exact ⟨f, n, par, ord, L, (ext_lay h99 h hg f p S n par ord hw).trans hL⟩
theorem rof_ge {ns : Nat} {A : Nat → Nat} {rl : mR} (hg : rgo ns A rl) {f : Nat} (hf : ns ≤ f) (hf2 : f < 100) : rof rl f = 0 := by
  apply mem_ext
  intro r hr
  rw [mem_rof hg.1 hr, mem_zero hr]
  by_cases c : r < rl.length
  · have := (hg.2 r c).2.1 0 (by have := rn_len _ _ _ (hg.2 r c).2.2.1; omega)
    have : (rat rl r).1.getD 0 0 ≠ f := by omega
    rw [decide_eq_false this, Bool.and_false]
  · rw [decide_eq_false c, Bool.false_and]
/-- the trees of all functions stay when a symbol is added -/
theorem okT_sym {ns : Nat} {A A2 : Nat → Nat} {rl : mR} (h99 : A 99 = 0) (h : ext ns A rl (ns + 1) A2 rl) (hg : rgo ns A rl) (ho : okT A rl ns) : okT A2 rl (ns + 1) := fun f hf h0 => by
  have hns : ns ≤ 24 := by have := h.2.1; omega
  by_cases c : f = ns
  · subst c
    exact absurd (rof_ge hg (Nat.le_refl _) (by have := h.2.1; omega)) h0
  · have hf2 : f < ns := by omega
    rw [bgn_ext h hf2]
    exact ext_tok h99 h hg (bgn_wfp h99 hns hg hf2 h0) (ho f hf2 h0)
/-- and when a rule is added that leaves its function a tree -/
theorem okT_app {ns : Nat} {A : Nat → Nat} {rl : mR} {x : List Nat × Nat} (h99 : A 99 = 0) (hns : ns ≤ 24) (hl : rl.length < 40) (hg : rgo ns A rl) (ho : okT A rl ns) {L : List nd} (hL : ltr A (rl ++ [x]) ns (x.1.getD 0 0) = some L) : okT A (rl ++ [x]) ns := fun f hf h0 => by
  by_cases c : x.1.getD 0 0 = f
  · subst c
    unfold ltr at hL
    rw [if_neg h0] at hL
    exact ⟨_, _, _, _, L, hL⟩
  · rw [rof_app hl c] at h0 ⊢
    exact ext_tok h99 (ext_app hns hl) hg (bgn_wfp h99 hns hg hf h0) (ho f hf h0)
theorem rgu_sym {ns ns2 : Nat} {rl : mR} (h : ns ≤ ns2) (hg : rgu ns rl) : rgu ns2 rl := fun r hr => by
  obtain ⟨h1, h2⟩ := hg r hr
  refine ⟨fun i hi => ?_, h2⟩
  have := h1 i hi
  unfold knw at this ⊢
  rw [decide_eq_true_iff] at this ⊢
  omega
theorem wfq_sym {ns ns2 : Nat} {A A2 : Nat → Nat} (h1 : ns ≤ ns2) (h2 : ∀ x, x < ns ∨ 99 ≤ x → A2 x = A x) {p : mP} (h : wfq ns A p) : wfq ns2 A2 p := by
  obtain ⟨a1, a2, a3, a4, a5⟩ := h
  exact ⟨kn1_mono h1 a1, kn1_mono h1 a2, by rw [rn_agr _ _ (kn1_agr h2 a1)]; exact a3, by rw [rn_agr _ _ (kn1_agr h2 a2)]; exact a4, a5⟩
theorem svW_sym {ns ns2 : Nat} {A A2 : Nat → Nat} (h1 : ns ≤ ns2) (h2 : ∀ x, x < ns ∨ 99 ≤ x → A2 x = A x) {v : sV} (h : svW ns A v) : svW ns2 A2 v := ⟨fun p hp => wfq_sym h1 h2 (h.1 p hp), fun z hz => by
  obtain ⟨a1, a2, a3⟩ := h.2 z hz
  exact ⟨kn1_mono h1 a1, by rw [rn_agr _ _ (kn1_agr h2 a1)]; exact a2, a3⟩⟩
