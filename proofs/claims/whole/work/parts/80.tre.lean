/-! the class's trees, as they are read. E: addresses that the solver leaves alone -/
def nfl (G : ah_H) (a k : Nat) : Option Value := match G.1 a with
  | some (.inr (c, fs)) => if c = 0 then fs[k]? else none
  | _ => none
theorem gw_nfl {G : ah_H} {a k : Nat} {v : Value} {K : Value → Prop} (h : nfl G a k = some v) : ae_gw G a 0 k K = K v := by
  unfold nfl at h
  unfold ae_gw
  cases e : G.1 a with
  | none => rw [e] at h; cases h
  | some z =>
    rw [e] at h
    cases z with
    | inl z => cases h
    | inr z =>
      obtain ⟨c, fs⟩ := z
      dsimp only at h ⊢
      by_cases c0 : c = 0
      · rw [if_pos c0] at h ⊢
        rw [h]
      · rw [if_neg c0] at h; cases h
theorem nfl_cls {G : ah_H} {a k : Nat} {v : Value} (h : nfl G a k = some v) : ∃ fs, G.1 a = some (.inr (0, fs)) := by
  unfold nfl at h
  cases e : G.1 a with
  | none => rw [e] at h; cases h
  | some z =>
    rw [e] at h
    cases z with
    | inl z => cases h
    | inr z =>
      obtain ⟨c, fs⟩ := z
      dsimp only at h
      by_cases c0 : c = 0
      · subst c0; exact ⟨fs, rfl⟩
      · rw [if_neg c0] at h; cases h
theorem nfl_cg {G G2 : ah_H} {a k : Nat} (h : G2.1 a = G.1 a) : nfl G2 a k = nfl G a k := by unfold nfl; rw [h]
def kch (G : ah_H) (g : Nat → List Nat → Int64 → Prop) (u : Nat → List Nat × Int64) : List Nat → Value → Prop
  | [], v => v = .null
  | c :: cs, v => ∃ a nx, v = .ref a ∧ nfl G a 1 = some (.int (nI c)) ∧ nfl G a 6 = some nx ∧ g a (u c).1 (u c).2 ∧ kch G g u cs nx
def nod (E : Nat → Prop) (G : ah_H) (A : Nat → Nat) (rl : mR) (ns : Nat) : Nat → Nat → List Nat → Int64 → Prop
  | 0, _, _, _ => False
  | f + 1, n, p, S => E n ∧ if isl A rl p S = true then nfl G n 2 = some (.int (nI 0)) ∧ nfl G n 3 = some (.int (nI (fsr S))) else ∃ k fc, bro A rl p S = some k ∧ (pds A p (jof p k)).length ≤ 8 ∧ nfl G n 2 = some (.int (nI (plv (pds A p (jof p k))))) ∧ nfl G n 5 = some fc ∧ kch G (nod E G A rl ns f) (kid A rl p k S) (chs A rl ns p k S) fc
theorem kch_isR {G : ah_H} {g : Nat → List Nat → Int64 → Prop} {u : Nat → List Nat × Int64} : ∀ (cs : List Nat) (v : Value), kch G g u cs v → ae_isR v = true := by
  intro cs v h
  cases cs with
  | nil => rw [show v = .null from h]; rfl
  | cons c cs =>
    obtain ⟨a, nx, h1, _⟩ := h
    rw [h1]; rfl
theorem kch_cg {G G2 : ah_H} {g g2 : Nat → List Nat → Int64 → Prop} {u : Nat → List Nat × Int64} (hg : ∀ a p S, g a p S → g2 a p S ∧ G2.1 a = G.1 a) : ∀ (cs : List Nat) (v : Value), kch G g u cs v → kch G2 g2 u cs v := by
  intro cs
  induction cs with
  | nil => intro v h; exact h
  | cons c cs ih =>
    intro v h
    obtain ⟨a, nx, h1, h2, h3, h4, h5⟩ := h
    obtain ⟨g1, g3⟩ := hg a _ _ h4
    exact ⟨a, nx, h1, by rw [nfl_cg g3]; exact h2, by rw [nfl_cg g3]; exact h3, g1, ih nx h5⟩
theorem nod_E {E : Nat → Prop} {G : ah_H} {A : Nat → Nat} {rl : mR} {ns f n : Nat} {p : List Nat} {S : Int64} (h : nod E G A rl ns f n p S) : E n := by
  cases f with
  | zero => exact h.elim
  | succ f => exact h.1
theorem nod_cg {E : Nat → Prop} {G G2 : ah_H} {A : Nat → Nat} {rl : mR} {ns : Nat} (hE : ∀ a, E a → G2.1 a = G.1 a) : ∀ (f n : Nat) (p : List Nat) (S : Int64), nod E G A rl ns f n p S → nod E G2 A rl ns f n p S := by
  intro f
  induction f with
  | zero => intro n p S h; exact h.elim
  | succ f ih =>
    intro n p S h
    obtain ⟨h1, h2⟩ := h
    refine ⟨h1, ?_⟩
    by_cases c : isl A rl p S = true
    · rw [if_pos c] at h2 ⊢
      rw [nfl_cg (hE n h1), nfl_cg (hE n h1)]
      exact h2
    · rw [if_neg c] at h2 ⊢
      obtain ⟨k, fc, k1, k2, k3, k4, k5⟩ := h2
      exact ⟨k, fc, k1, k2, by rw [nfl_cg (hE n h1)]; exact k3, by rw [nfl_cg (hE n h1)]; exact k4, kch_cg (fun a p S hg => ⟨ih a p S hg, hE a (nod_E hg)⟩) _ _ k5⟩
/-- a rule at a -/
def rul (E : Nat → Prop) (G : ah_H) (a : Nat) (l r : List Nat) : Prop := E a ∧ E (a + 1) ∧ E (a + 2) ∧ E (a + 3) ∧ E (a + 4) ∧ G.1 a = some (.inr (4, [.ref (a + 1), .ref (a + 3)])) ∧ (∃ g, nmb G (a + 1) l.length g l.length ∧ rowl l g) ∧ ∃ g, nmb G (a + 3) r.length g r.length ∧ rowl r g
theorem rul_cg {E : Nat → Prop} {G G2 : ah_H} {a : Nat} {l r : List Nat} (hE : ∀ a, E a → G2.1 a = G.1 a) (h : rul E G a l r) : rul E G2 a l r := by
  obtain ⟨e0, e1, e2, e3, e4, h1, ⟨g, h2, h3⟩, g', h4, h5⟩ := h
  exact ⟨e0, e1, e2, e3, e4, by rw [hE _ e0]; exact h1, ⟨g, ⟨by rw [hE _ e1]; exact h2.1, by rw [show a + 1 + 1 = a + 2 from rfl, hE _ e2]; exact h2.2⟩, h3⟩, g', ⟨by rw [hE _ e3]; exact h4.1, by rw [show a + 3 + 1 = a + 4 from rfl, hE _ e4]; exact h4.2⟩, h5⟩
/-- a tree at t: its nodes' addresses f, of which the first sz are the tree -/
def tre (E : Nat → Prop) (G : ah_H) (t e n cap : Nat) (f : Nat → Option Nat) (sz : Nat) : Prop := E t ∧ E (t + 1) ∧ E e ∧ G.1 t = some (.inr (8, [.ref (t + 1), .int (nI sz)])) ∧ al G (t + 1) e n cap f ∧ sz ≤ n ∧ ∀ i, i < n → ∃ a fs, f i = some a ∧ E a ∧ G.1 a = some (.inr (0, fs))
theorem tre_cg {E : Nat → Prop} {G G2 : ah_H} {t e n cap : Nat} {f : Nat → Option Nat} {sz : Nat} (hE : ∀ a, E a → G2.1 a = G.1 a) (h : tre E G t e n cap f sz) : tre E G2 t e n cap f sz := by
  obtain ⟨e0, e1, e2, h1, ⟨⟨mc, h2⟩, h3, h4⟩, h5, h6⟩ := h
  exact ⟨e0, e1, e2, by rw [hE _ e0]; exact h1, ⟨⟨mc, by rw [hE _ e1]; exact h2⟩, by rw [hE _ e2]; exact h3, h4⟩, h5, fun i hi => by
    obtain ⟨a, fs, a1, a2, a3⟩ := h6 i hi
    exact ⟨a, fs, a1, a2, by rw [hE _ a2]; exact a3⟩⟩
/-- the rules and their trees, as the solver reads them -/
def rlk (E : Nat → Prop) (G : ah_H) (x : Nat) (A : Nat → Nat) (ns : Nat) (rl : mR) : Prop := E (x + 6) ∧ E (x + 7) ∧ E (x + 8) ∧ (∃ sp lf tf, G.1 (x + 6) = some (.inr (5, [.ref (x + 7), .ref (x + 8), .ref (x + 11), .ref sp, .int (nI rl.length)])) ∧ G.1 (x + 7) = some (.inl (3, 40, .inr (.inr (.inr (.inr lf))))) ∧ G.1 (x + 8) = some (.inl (4, 24, .inr (.inr (.inr (.inr tf))))) ∧ (∀ r, r < rl.length → ∃ a, lf r = some a ∧ rul E G a ((rat rl r).1.take (rat rl r).2) ((rat rl r).1.drop (rat rl r).2)) ∧ ∀ f, f < ns → (rof rl f ≠ 0 → ∃ t e n cap g sz a, tf f = some t ∧ tre E G t e n cap g sz ∧ 0 < sz ∧ g 0 = some a ∧ nod E G A rl ns 120 a (bgn A f) (rof rl f)) ∧ (rof rl f = 0 → tf f = none ∨ ∃ t e n cap g, tf f = some t ∧ tre E G t e n cap g 0))
theorem rlk_cg {E : Nat → Prop} {G G2 : ah_H} {x : Nat} {A : Nat → Nat} {ns : Nat} {rl : mR} (hE : ∀ a, E a → G2.1 a = G.1 a) (h : rlk E G x A ns rl) : rlk E G2 x A ns rl := by
  obtain ⟨e6, e7, e8, sp, lf, tf, h1, h2, h3, h4, h5⟩ := h
  refine ⟨e6, e7, e8, sp, lf, tf, by rw [hE _ e6]; exact h1, by rw [hE _ e7]; exact h2, by rw [hE _ e8]; exact h3, fun r hr => ?_, fun f hf => ⟨fun hz => ?_, fun hz => ?_⟩⟩
  · obtain ⟨a, a1, a2⟩ := h4 r hr
    exact ⟨a, a1, rul_cg hE a2⟩
  · obtain ⟨t, e, n, cap, g, sz, a, b1, b2, b3, b4, b5⟩ := (h5 f hf).1 hz
    exact ⟨t, e, n, cap, g, sz, a, b1, tre_cg hE b2, b3, b4, nod_cg hE _ _ _ _ b5⟩
  · rcases (h5 f hf).2 hz with z | ⟨t, e, n, cap, g, b1, b2⟩
    · exact Or.inl z
    · exact Or.inr ⟨t, e, n, cap, g, b1, tre_cg hE b2⟩
section TRE
variable {d : Nat} {Q : Option Value → ah_H → Prop} {h : ah_H} {E : Nat → Prop} {t e n cap : Nat} {f : Nat → Option Nat} {sz : Nat}
theorem m_X8_at {i a : Nat} (ht : tre E h t e n cap f sz) (hi : i < sz) (hf : f i = some a) : ae_wm (d + 3) mX8_at [.ref t, .int (nI i)] h Q = Q (some (.ref a)) h := by
  obtain ⟨e0, e1, e2, h1, ha, h5, h6⟩ := ht
  have ha0 := ha
  obtain ⟨⟨mc, h2⟩, h3, h4, h7⟩ := ha0
  obtain ⟨a', fs, a1, a2, a3⟩ := h6 i (by omega)
  rw [hf] at a1
  cases a1
  have gs := fun Q => m_al_size (d := d + 2) (Q := Q) ha
  have gg := fun Q => m_al_get (d := d) (Q := Q) ha (show i < n by omega)
  rw [hf] at gg
  simp (disch := first | exact ae_isR_ref _ | exact ae_isR_null | exact ae_isR_rf _ | exact ae_cat_ref _ | exact ae_cat_int _ | exact ae_cat_null | exact ae_cat_rf _ | exact ae_nz0 | exact ae_nz1 | exact ae_fz0 | exact ae_fz1 | exact cI_na (by omega) | exact cI_ix (by omega) | exact cI_nn (by omega) | exact cI_nz (by omega) | exact cI_cp (by omega) | assumption | omega) only [s_X8_at_0, s_X8_at_1, s_X8_at_4, s_X8_at_5, s_X8_at_6, s_X8_at_9, s_X8_at_12, s_X8_at_13, s_X8_at_14, s_X8_at_17 h2, s_X8_at_20, s_X8_at_23, s_X8_at_24, s_X8_at_27, s_X8_at_28 h2, s_X8_at_31 a3, s_X8_at_31_N, s_X8_at_34, s_X8_at_37, s_X8_at_38, e_X8_at, Bool.false_eq_true, ae_gw, ae_pw, ae_zw, ae_Ki, ae_Kb, ae_Kj, ae_Ka, ae_Si, ae_Sb, ae_Sj, ae_Sn, List.getElem?_cons_succ, List.getElem?_cons_zero, ↓reduceIte, if_true, if_false, nI_ofNat, true_or, or_true, false_or, or_false, true_and, and_true, false_and, and_false, or_self, and_self, not_true_eq_false, not_false_eq_true, eq_self, List.length_cons, List.length_nil, Nat.reduceAdd, Nat.reduceLT, Nat.reduceSub, List.set_cons_succ, List.set_cons_zero, Option.toList, List.nil_append, List.cons_append, cI_ltT, cI_ltF, cI_leT, cI_leF, cI_eqT, cI_eqF, cI_cl, cN_leT, cN_leF, cN_ltT, cN_ltF, cN_eqT, cN_eqF, cI_add, cI_sub, cI_m1a, cI_m1b, cI_m1c, cI_m1d, cI_m1e, cI_m1f, hs_eq, hs_ne, hs_2, hs_hs, hn_eq, hn_ne, hn_21, hn_22, hn_23, h1, gs, gg, va_rf]
theorem m_X8_at_no {i : Nat} (ht : tre E h t e n cap f sz) (hi : sz ≤ i ∧ i < 2147483648) : ae_wm (d + 3) mX8_at [.ref t, .int (nI i)] h Q = Q (some .null) h := by
  obtain ⟨e0, e1, e2, h1, ha, h5, h6⟩ := ht
  obtain ⟨⟨mc, h2⟩, h3, h4, h7⟩ := ha
  simp (disch := first | exact ae_isR_ref _ | exact ae_isR_null | exact ae_isR_rf _ | exact ae_cat_ref _ | exact ae_cat_int _ | exact ae_cat_null | exact ae_cat_rf _ | exact ae_nz0 | exact ae_nz1 | exact ae_fz0 | exact ae_fz1 | exact cI_na (by omega) | exact cI_ix (by omega) | exact cI_nn (by omega) | exact cI_nz (by omega) | exact cI_cp (by omega) | assumption | omega) only [s_X8_at_0, s_X8_at_1, s_X8_at_4, s_X8_at_5, s_X8_at_6, s_X8_at_9, e_X8_at, s_X8_at_37, s_X8_at_38, Bool.false_eq_true, ae_gw, ae_pw, ae_zw, ae_Ki, ae_Kb, ae_Kj, ae_Ka, ae_Si, ae_Sb, ae_Sj, ae_Sn, List.getElem?_cons_succ, List.getElem?_cons_zero, ↓reduceIte, if_true, if_false, nI_ofNat, true_or, or_true, false_or, or_false, true_and, and_true, false_and, and_false, or_self, and_self, not_true_eq_false, not_false_eq_true, eq_self, List.length_cons, List.length_nil, Nat.reduceAdd, Nat.reduceLT, Nat.reduceSub, List.set_cons_succ, List.set_cons_zero, Option.toList, List.nil_append, List.cons_append, cI_ltT, cI_ltF, cI_leT, cI_leF, cI_eqT, cI_eqF, cI_cl, cN_leT, cN_leF, cN_ltT, cN_ltF, cN_eqT, cN_eqF, cI_add, cI_sub, cI_m1a, cI_m1b, cI_m1c, cI_m1d, cI_m1e, cI_m1f, hs_eq, hs_ne, hs_2, hs_hs, hn_eq, hn_ne, hn_21, hn_22, hn_23, h1]
theorem m_X8_at_ng {i : Int32} (hi : i < nI 0) : ae_wm (d + 3) mX8_at [.ref t, .int i] h Q = Q (some .null) h := by
  simp (disch := first | exact ae_isR_ref _ | exact ae_isR_null | exact ae_isR_rf _ | exact ae_cat_ref _ | exact ae_cat_int _ | exact ae_cat_null | exact ae_cat_rf _ | exact ae_nz0 | exact ae_nz1 | exact ae_fz0 | exact ae_fz1 | exact cI_na (by omega) | exact cI_ix (by omega) | exact cI_nn (by omega) | exact cI_nz (by omega) | exact cI_cp (by omega) | assumption | omega) only [s_X8_at_0, s_X8_at_1, e_X8_at, s_X8_at_37, s_X8_at_38, Bool.false_eq_true, ae_gw, ae_pw, ae_zw, ae_Ki, ae_Kb, ae_Kj, ae_Ka, ae_Si, ae_Sb, ae_Sj, ae_Sn, List.getElem?_cons_succ, List.getElem?_cons_zero, ↓reduceIte, if_true, if_false, nI_ofNat, true_or, or_true, false_or, or_false, true_and, and_true, false_and, and_false, or_self, and_self, not_true_eq_false, not_false_eq_true, eq_self, List.length_cons, List.length_nil, Nat.reduceAdd, Nat.reduceLT, Nat.reduceSub, List.set_cons_succ, List.set_cons_zero, Option.toList, List.nil_append, List.cons_append, cI_ltT, cI_ltF, cI_leT, cI_leF, cI_eqT, cI_eqF, cI_cl, cN_leT, cN_leF, cN_ltT, cN_ltF, cN_eqT, cN_eqF, cI_add, cI_sub, cI_m1a, cI_m1b, cI_m1c, cI_m1d, cI_m1e, cI_m1f, hs_eq, hs_ne, hs_2, hs_hs, hn_eq, hn_ne, hn_21, hn_22, hn_23, ng_lt hi]
theorem m_X0_isLeaf {a v : Nat} (ha : nfl h a 2 = some (.int (nI v))) (hv : v < 2147483648) : ae_wm d mX0_isLeaf [.ref a] h Q = Q (some (.int (if v = 0 then nI 1 else nI 0))) h := by
  by_cases c : v = 0
  · subst c
    simp (disch := first | exact ae_isR_ref _ | exact ae_isR_null | exact ae_isR_rf _ | exact ae_cat_ref _ | exact ae_cat_int _ | exact ae_cat_null | exact ae_cat_rf _ | exact ae_nz0 | exact ae_nz1 | exact ae_fz0 | exact ae_fz1 | exact cI_na (by omega) | exact cI_ix (by omega) | exact cI_nn (by omega) | exact cI_nz (by omega) | exact cI_cp (by omega) | assumption | omega) only [s_X0_isLeaf_0, s_X0_isLeaf_1, s_X0_isLeaf_4, s_X0_isLeaf_7, s_X0_isLeaf_8, s_X0_isLeaf_11, s_X0_isLeaf_12, e_X0_isLeaf, og_0, og_1, og_2, og_3, og_4, og_5, og_6, og_7, og_8, og_9, og_10, og_11, og_12, op_6, op_8, op_9, op_10, op_11, op_12, dg_0, dg_1, dg_2, dg_3, dp_1, dp_2, dp_3, ng_b, ng_d, mz_m, ms_m, ov_2, nset_d, nset_b, uI_1, uI_2, uR_1, uR_21, uR_22, va_rf, Bool.false_eq_true, ae_Ki, ae_Kb, ae_Kj, ae_Ka, ae_Si, ae_Sb, ae_Sj, ae_Sn, List.getElem?_cons_succ, List.getElem?_cons_zero, ↓reduceIte, if_true, if_false, nI_ofNat, true_or, or_true, false_or, or_false, true_and, and_true, false_and, and_false, or_self, and_self, not_true_eq_false, not_false_eq_true, eq_self, List.length_cons, List.length_nil, Nat.reduceAdd, Nat.reduceLT, Nat.reduceSub, List.set_cons_succ, List.set_cons_zero, Option.toList, List.nil_append, List.cons_append, cI_ltT, cI_ltF, cI_leT, cI_leF, cI_eqT, cI_eqF, cI_cl, cN_leT, cN_leF, cN_ltT, cN_ltF, cN_eqT, cN_eqF, cI_add, cI_sub, cI_m1a, cI_m1b, cI_m1c, cI_m1d, cI_m1e, cI_m1f, gw_nfl ha]
  · simp (disch := first | exact ae_isR_ref _ | exact ae_isR_null | exact ae_isR_rf _ | exact ae_cat_ref _ | exact ae_cat_int _ | exact ae_cat_null | exact ae_cat_rf _ | exact ae_nz0 | exact ae_nz1 | exact ae_fz0 | exact ae_fz1 | exact cI_na (by omega) | exact cI_ix (by omega) | exact cI_nn (by omega) | exact cI_nz (by omega) | exact cI_cp (by omega) | assumption | omega) only [s_X0_isLeaf_0, s_X0_isLeaf_1, s_X0_isLeaf_4, s_X0_isLeaf_7, s_X0_isLeaf_8, s_X0_isLeaf_11, s_X0_isLeaf_12, e_X0_isLeaf, og_0, og_1, og_2, og_3, og_4, og_5, og_6, og_7, og_8, og_9, og_10, og_11, og_12, op_6, op_8, op_9, op_10, op_11, op_12, dg_0, dg_1, dg_2, dg_3, dp_1, dp_2, dp_3, ng_b, ng_d, mz_m, ms_m, ov_2, nset_d, nset_b, uI_1, uI_2, uR_1, uR_21, uR_22, va_rf, Bool.false_eq_true, ae_Ki, ae_Kb, ae_Kj, ae_Ka, ae_Si, ae_Sb, ae_Sj, ae_Sn, List.getElem?_cons_succ, List.getElem?_cons_zero, ↓reduceIte, if_true, if_false, nI_ofNat, true_or, or_true, false_or, or_false, true_and, and_true, false_and, and_false, or_self, and_self, not_true_eq_false, not_false_eq_true, eq_self, List.length_cons, List.length_nil, Nat.reduceAdd, Nat.reduceLT, Nat.reduceSub, List.set_cons_succ, List.set_cons_zero, Option.toList, List.nil_append, List.cons_append, cI_ltT, cI_ltF, cI_leT, cI_leF, cI_eqT, cI_eqF, cI_cl, cN_leT, cN_leF, cN_ltT, cN_ltF, cN_eqT, cN_eqF, cI_add, cI_sub, cI_m1a, cI_m1b, cI_m1c, cI_m1d, cI_m1e, cI_m1f, gw_nfl ha]
theorem m_X0_cf_loop {g : Nat → List Nat → Int64 → Prop} {u : Nat → List Nat × Int64} {w q : Nat} (hw : w < 2147483648) : ∀ (cs : List Nat) (v : Value), (∀ c, c ∈ cs → c < 2147483648) → kch h g u cs v → ∃ v2, (∀ Q, ae_wp d mX0_childFor 5 [some (.ref q), some (.int (nI w)), some v] [] h Q = Q (some v2) h) ∧ ((w ∈ cs ∧ ∃ a, v2 = .ref a ∧ g a (u w).1 (u w).2) ∨ (w ∉ cs ∧ v2 = .null)) := by
  intro cs
  induction cs with
  | nil =>
    intro v _ h1
    have h1 : v = .null := h1
    subst h1
    refine ⟨.null, fun Q => ?_, Or.inr ⟨by simp, rfl⟩⟩
    simp (disch := first | exact ae_isR_ref _ | exact ae_isR_null | exact ae_isR_rf _ | exact ae_cat_ref _ | exact ae_cat_int _ | exact ae_cat_null | exact ae_cat_rf _ | exact ae_nz0 | exact ae_nz1 | exact ae_fz0 | exact ae_fz1 | exact cI_na (by omega) | exact cI_ix (by omega) | exact cI_nn (by omega) | exact cI_nz (by omega) | exact cI_cp (by omega) | assumption | omega) only [s_X0_childFor_5, s_X0_childFor_6_N, s_X0_childFor_25, s_X0_childFor_26, og_0, og_1, og_2, og_3, og_4, og_5, og_6, og_7, og_8, og_9, og_10, og_11, og_12, op_6, op_8, op_9, op_10, op_11, op_12, dg_0, dg_1, dg_2, dg_3, dp_1, dp_2, dp_3, ng_b, ng_d, mz_m, ms_m, ov_2, nset_d, nset_b, uI_1, uI_2, uR_1, uR_21, uR_22, va_rf, Bool.false_eq_true, ae_Ki, ae_Kb, ae_Kj, ae_Ka, ae_Si, ae_Sb, ae_Sj, ae_Sn, List.getElem?_cons_succ, List.getElem?_cons_zero, ↓reduceIte, if_true, if_false, nI_ofNat, true_or, or_true, false_or, or_false, true_and, and_true, false_and, and_false, or_self, and_self, not_true_eq_false, not_false_eq_true, eq_self, List.length_cons, List.length_nil, Nat.reduceAdd, Nat.reduceLT, Nat.reduceSub, List.set_cons_succ, List.set_cons_zero, Option.toList, List.nil_append, List.cons_append, cI_ltT, cI_ltF, cI_leT, cI_leF, cI_eqT, cI_eqF, cI_cl, cN_leT, cN_leF, cN_ltT, cN_ltF, cN_eqT, cN_eqF, cI_add, cI_sub, cI_m1a, cI_m1b, cI_m1c, cI_m1d, cI_m1e, cI_m1f]
  | cons c cs ih =>
    intro v hc h1
    obtain ⟨a, nx, h2, h3, h4, h5, h6⟩ := h1
    subst h2
    have hcc := hc c (by simp)
    by_cases e : c = w
    · subst e
      refine ⟨.ref a, fun Q => ?_, Or.inl ⟨by simp, a, rfl, h5⟩⟩
      simp (disch := first | exact ae_isR_ref _ | exact ae_isR_null | exact ae_isR_rf _ | exact ae_cat_ref _ | exact ae_cat_int _ | exact ae_cat_null | exact ae_cat_rf _ | exact ae_nz0 | exact ae_nz1 | exact ae_fz0 | exact ae_fz1 | exact cI_na (by omega) | exact cI_ix (by omega) | exact cI_nn (by omega) | exact cI_nz (by omega) | exact cI_cp (by omega) | assumption | omega) only [s_X0_childFor_5, s_X0_childFor_6, s_X0_childFor_9, s_X0_childFor_10, s_X0_childFor_13, s_X0_childFor_14, s_X0_childFor_25, s_X0_childFor_26, og_0, og_1, og_2, og_3, og_4, og_5, og_6, og_7, og_8, og_9, og_10, og_11, og_12, op_6, op_8, op_9, op_10, op_11, op_12, dg_0, dg_1, dg_2, dg_3, dp_1, dp_2, dp_3, ng_b, ng_d, mz_m, ms_m, ov_2, nset_d, nset_b, uI_1, uI_2, uR_1, uR_21, uR_22, va_rf, Bool.false_eq_true, ae_Ki, ae_Kb, ae_Kj, ae_Ka, ae_Si, ae_Sb, ae_Sj, ae_Sn, List.getElem?_cons_succ, List.getElem?_cons_zero, ↓reduceIte, if_true, if_false, nI_ofNat, true_or, or_true, false_or, or_false, true_and, and_true, false_and, and_false, or_self, and_self, not_true_eq_false, not_false_eq_true, eq_self, List.length_cons, List.length_nil, Nat.reduceAdd, Nat.reduceLT, Nat.reduceSub, List.set_cons_succ, List.set_cons_zero, Option.toList, List.nil_append, List.cons_append, cI_ltT, cI_ltF, cI_leT, cI_leF, cI_eqT, cI_eqF, cI_cl, cN_leT, cN_leF, cN_ltT, cN_ltF, cN_eqT, cN_eqF, cI_add, cI_sub, cI_m1a, cI_m1b, cI_m1c, cI_m1d, cI_m1e, cI_m1f, gw_nfl h3]
    · obtain ⟨v2, i1, i2⟩ := ih nx (fun c hc2 => hc c (by simp [hc2])) h6
      have hR := kch_isR _ _ h6
      refine ⟨v2, fun Q => ?_, ?_⟩
      · refine Eq.trans ?_ (s_X0_childFor_22.trans (i1 Q))
        simp (disch := first | exact ae_isR_ref _ | exact ae_isR_null | exact ae_isR_rf _ | exact ae_cat_ref _ | exact ae_cat_int _ | exact ae_cat_null | exact ae_cat_rf _ | exact ae_nz0 | exact ae_nz1 | exact ae_fz0 | exact ae_fz1 | exact cI_na (by omega) | exact cI_ix (by omega) | exact cI_nn (by omega) | exact cI_nz (by omega) | exact cI_cp (by omega) | assumption | omega) only [s_X0_childFor_5, s_X0_childFor_6, s_X0_childFor_9, s_X0_childFor_10, s_X0_childFor_13, s_X0_childFor_14, s_X0_childFor_17, s_X0_childFor_18, s_X0_childFor_21, og_0, og_1, og_2, og_3, og_4, og_5, og_6, og_7, og_8, og_9, og_10, og_11, og_12, op_6, op_8, op_9, op_10, op_11, op_12, dg_0, dg_1, dg_2, dg_3, dp_1, dp_2, dp_3, ng_b, ng_d, mz_m, ms_m, ov_2, nset_d, nset_b, uI_1, uI_2, uR_1, uR_21, uR_22, va_rf, Bool.false_eq_true, ae_Ki, ae_Kb, ae_Kj, ae_Ka, ae_Si, ae_Sb, ae_Sj, ae_Sn, List.getElem?_cons_succ, List.getElem?_cons_zero, ↓reduceIte, if_true, if_false, nI_ofNat, true_or, or_true, false_or, or_false, true_and, and_true, false_and, and_false, or_self, and_self, not_true_eq_false, not_false_eq_true, eq_self, List.length_cons, List.length_nil, Nat.reduceAdd, Nat.reduceLT, Nat.reduceSub, List.set_cons_succ, List.set_cons_zero, Option.toList, List.nil_append, List.cons_append, cI_ltT, cI_ltF, cI_leT, cI_leF, cI_eqT, cI_eqF, cI_cl, cN_leT, cN_leF, cN_ltT, cN_ltF, cN_eqT, cN_eqF, cI_add, cI_sub, cI_m1a, cI_m1b, cI_m1c, cI_m1d, cI_m1e, cI_m1f, gw_nfl h3, gw_nfl h4]
      · rcases i2 with ⟨z1, z2⟩ | ⟨z1, z2⟩
        · exact Or.inl ⟨by simp [z1], z2⟩
        · refine Or.inr ⟨fun z => ?_, z2⟩
          rcases List.mem_cons.mp z with y | y
          · exact e y.symm
          · exact z1 y
theorem m_X0_childFor {g : Nat → List Nat → Int64 → Prop} {u : Nat → List Nat × Int64} {w q : Nat} (hw : w < 2147483648) {cs : List Nat} {fc : Value} (hq : nfl h q 5 = some fc) (hcs : ∀ c, c ∈ cs → c < 2147483648) (hk : kch h g u cs fc) : ∃ v2, (∀ Q, ae_wm d mX0_childFor [.ref q, .int (nI w)] h Q = Q (some v2) h) ∧ ((w ∈ cs ∧ ∃ a, v2 = .ref a ∧ g a (u w).1 (u w).2) ∨ (w ∉ cs ∧ v2 = .null)) := by
  obtain ⟨v2, i1, i2⟩ := m_X0_cf_loop (d := d) (q := q) hw cs fc hcs hk
  have hR := kch_isR _ _ hk
  refine ⟨v2, fun Q => ?_, i2⟩
  simp (disch := first | exact ae_isR_ref _ | exact ae_isR_null | exact ae_isR_rf _ | exact ae_cat_ref _ | exact ae_cat_int _ | exact ae_cat_null | exact ae_cat_rf _ | exact ae_nz0 | exact ae_nz1 | exact ae_fz0 | exact ae_fz1 | exact cI_na (by omega) | exact cI_ix (by omega) | exact cI_nn (by omega) | exact cI_nz (by omega) | exact cI_cp (by omega) | assumption | omega) only [s_X0_childFor_0, s_X0_childFor_1, s_X0_childFor_4, e_X0_childFor, og_0, og_1, og_2, og_3, og_4, og_5, og_6, og_7, og_8, og_9, og_10, og_11, og_12, op_6, op_8, op_9, op_10, op_11, op_12, dg_0, dg_1, dg_2, dg_3, dp_1, dp_2, dp_3, ng_b, ng_d, mz_m, ms_m, ov_2, nset_d, nset_b, uI_1, uI_2, uR_1, uR_21, uR_22, va_rf, Bool.false_eq_true, ae_Ki, ae_Kb, ae_Kj, ae_Ka, ae_Si, ae_Sb, ae_Sj, ae_Sn, List.getElem?_cons_succ, List.getElem?_cons_zero, ↓reduceIte, if_true, if_false, nI_ofNat, true_or, or_true, false_or, or_false, true_and, and_true, false_and, and_false, or_self, and_self, not_true_eq_false, not_false_eq_true, eq_self, List.length_cons, List.length_nil, Nat.reduceAdd, Nat.reduceLT, Nat.reduceSub, List.set_cons_succ, List.set_cons_zero, Option.toList, List.nil_append, List.cons_append, cI_ltT, cI_ltF, cI_leT, cI_leF, cI_eqT, cI_eqF, cI_cl, cN_leT, cN_leF, cN_ltT, cN_ltF, cN_eqT, cN_eqF, cI_add, cI_sub, cI_m1a, cI_m1b, cI_m1c, cI_m1d, cI_m1e, cI_m1f, gw_nfl hq, i1]
end TRE
