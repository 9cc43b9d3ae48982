/-! NarrowSolver$Rules.empty, NarrowSolver.clear -/
def ldg (G : ah_H) (P : Nat → Option Nat) (T : List Nat) (nn cc : Nat → Nat) (B1 B2 j : Nat) : Prop := G.2.1 ≤ B1 + 5 * j + 3 * cnP P + 2 * (T.map nn).sum + 2 * T.length ∧ G.2.2.1 ≤ B2 + 126 * j + 306 * cnP P + 4 * (T.map cc).sum + 11 * (T.map nn).sum + 5 * T.length
def CIz (G : ah_H) (x b ns : Nat) (A : Nat → Nat) (F : Nat → Bool) (tp : List Nat) (rl : mR) (v : sV) (B1 B2 j : Nat) : Prop := ∃ P c p y fw ar fn ro sp lf tf T nn cc fe, cix G x ns A F tp rl v P c p y fw ar fn ro sp lf tf T nn cc fe ∧ ldg G P T nn cc B1 B2 j ∧ ro b = 0 ∧ b < x
/-- what is not the class's stays -/
def kep (G G2 : ah_H) (x b : Nat) : Prop := (∀ a, x + 29 ≤ a → a < x + 236 → G2.1 a = G.1 a) ∧ G2.1 b = G.1 b
theorem kep_refl (G : ah_H) (x b : Nat) : kep G G x b := ⟨fun _ _ _ => rfl, rfl⟩
theorem kep_trans {G G2 G3 : ah_H} {x b : Nat} (h1 : kep G G2 x b) (h2 : kep G2 G3 x b) : kep G G3 x b := ⟨fun a q1 q2 => (h2.1 a q1 q2).trans (h1.1 a q1 q2), h2.2.trans h1.2⟩
theorem ldg_mono {G : ah_H} {P : Nat → Option Nat} {T : List Nat} {nn cc : Nat → Nat} {B1 B2 j : Nat} (h : ldg G P T nn cc B1 B2 j) : ldg G P T nn cc B1 B2 (j + 1) := ⟨by have := h.1; omega, by have := h.2; omega⟩
section CLR
variable {d : Nat} {Q : Option Value → ah_H → Prop} {x : Nat}
theorem m_X5_em_loop {v0 v2 v3 v4 : Value} {tf : Nat → Option Nat} : ∀ (m i : Nat) (H : ah_H), i + m = 24 → H.1 (x + 6) = some (.inr (5, [v0, .ref (x + 8), v2, v3, v4])) → H.1 (x + 8) = some (.inl (4, 24, .inr (.inr (.inr (.inr tf))))) → (∀ f t, f < 24 → tf f = some t → t ≠ x + 6 ∧ t ≠ x + 8 ∧ ∃ w, H.1 t = some (.inr (8, [.ref (t + 1), w]))) → ∃ H2, (∀ Q, ae_wp d mX5_empty 7 [some (.ref (x + 6)), some (.int (nI i))] [] H Q = Q none H2) ∧ (∀ f t, i ≤ f → f < 24 → tf f = some t → H2.1 t = some (.inr (8, [.ref (t + 1), .int (nI 0)]))) ∧ (∀ a, (∀ f, i ≤ f → f < 24 → tf f ≠ some a) → H2.1 a = H.1 a) ∧ H2.2 = H.2 := by
  intro m
  induction m with
  | zero =>
    intro i H hi h6 h8 ht
    have e : i = 24 := by omega
    subst e
    have o1 : ∀ K, ae_gw H (x + 6) 5 1 K = K (.ref (x + 8)) := fun K => by unfold ae_gw; rw [h6]; rfl
    have o8 : ∀ K, ae_zw H (x + 8) K = K 4 (24, .inr (.inr (.inr (.inr tf)))) := fun K => zw_of h8
    refine ⟨H, fun Q => ?_, fun f t h1 h2 => by omega, fun _ _ => rfl, rfl⟩
    simp (disch := first | exact ae_isR_ref _ | exact ae_isR_null | exact ae_isR_rf _ | exact ae_cat_ref _ | exact ae_cat_int _ | exact ae_cat_null | exact ae_cat_rf _ | exact ae_nz0 | exact ae_nz1 | exact ae_fz0 | exact ae_fz1 | exact cI_na (by omega) | exact cI_ix (by omega) | exact cI_nn (by omega) | exact cI_nz (by omega) | exact cI_cp (by omega) | assumption | omega) only [s_X5_empty_7, s_X5_empty_8, s_X5_empty_9, s_X5_empty_12, s_X5_empty_13, s_X5_empty_41, og_0, og_1, og_2, og_3, og_4, og_5, og_6, og_7, og_8, og_9, og_10, og_11, og_12, op_6, op_8, op_9, op_10, op_11, op_12, dg_0, dg_1, dg_2, dg_3, dp_1, dp_2, dp_3, ng_b, ng_d, mz_m, ms_m, ov_2, nset_d, nset_b, uI_1, uI_2, uR_1, uR_21, uR_22, va_rf, Bool.false_eq_true, ae_Ki, ae_Kb, ae_Kj, ae_Ka, ae_Si, ae_Sb, ae_Sj, ae_Sn, List.getElem?_cons_succ, List.getElem?_cons_zero, ↓reduceIte, if_true, if_false, nI_ofNat, true_or, or_true, false_or, or_false, true_and, and_true, false_and, and_false, or_self, and_self, not_true_eq_false, not_false_eq_true, eq_self, List.length_cons, List.length_nil, Nat.reduceAdd, Nat.reduceLT, Nat.reduceSub, List.set_cons_succ, List.set_cons_zero, Option.toList, List.nil_append, List.cons_append, cI_ltT, cI_ltF, cI_leT, cI_leF, cI_eqT, cI_eqF, cI_cl, cN_leT, cN_leF, cN_ltT, cN_ltF, cN_eqT, cN_eqF, cI_add, cI_sub, cI_m1a, cI_m1b, cI_m1c, cI_m1d, cI_m1e, cI_m1f, o1, o8]
  | succ m ih =>
    intro i H hi h6 h8 ht
    have o1 : ∀ K, ae_gw H (x + 6) 5 1 K = K (.ref (x + 8)) := fun K => by unfold ae_gw; rw [h6]; rfl
    have o8 : ∀ K, ae_zw H (x + 8) K = K 4 (24, .inr (.inr (.inr (.inr tf)))) := fun K => zw_of h8
    have hcl : (nI i).toNatClampNeg = i := cI_cl (by omega)
    have hix : ¬ (nI i < nI 0 ∨ 24 ≤ (nI i).toNatClampNeg) := cI_ix (by omega)
    cases e : tf i with
    | none =>
      obtain ⟨H2, i1, i2, i3, i4⟩ := ih (i + 1) H (by omega) h6 h8 ht
      refine ⟨H2, fun Q => ?_, fun f t h1 h2 h3 => ?_, fun a ha => i3 a (fun f h1 h2 => ha f (by omega) h2), i4⟩
      · refine Eq.trans ?_ (s_X5_empty_38.trans (i1 Q))
        simp (disch := first | exact ae_isR_ref _ | exact ae_isR_null | exact ae_isR_rf _ | exact ae_cat_ref _ | exact ae_cat_int _ | exact ae_cat_null | exact ae_cat_rf _ | exact ae_nz0 | exact ae_nz1 | exact ae_fz0 | exact ae_fz1 | exact cI_na (by omega) | exact cI_ix (by omega) | exact cI_nn (by omega) | exact cI_nz (by omega) | exact cI_cp (by omega) | assumption | omega) only [s_X5_empty_7, s_X5_empty_8, s_X5_empty_9, s_X5_empty_12, s_X5_empty_13, s_X5_empty_16, s_X5_empty_17, s_X5_empty_20, s_X5_empty_21, s_X5_empty_22_N, s_X5_empty_22, s_X5_empty_25, s_X5_empty_26, s_X5_empty_29, s_X5_empty_30, s_X5_empty_31, s_X5_empty_32, s_X5_empty_35, og_0, og_1, og_2, og_3, og_4, og_5, og_6, og_7, og_8, og_9, og_10, og_11, og_12, op_6, op_8, op_9, op_10, op_11, op_12, dg_0, dg_1, dg_2, dg_3, dp_1, dp_2, dp_3, ng_b, ng_d, mz_m, ms_m, ov_2, nset_d, nset_b, uI_1, uI_2, uR_1, uR_21, uR_22, va_rf, Bool.false_eq_true, ae_Ki, ae_Kb, ae_Kj, ae_Ka, ae_Si, ae_Sb, ae_Sj, ae_Sn, List.getElem?_cons_succ, List.getElem?_cons_zero, ↓reduceIte, if_true, if_false, nI_ofNat, true_or, or_true, false_or, or_false, true_and, and_true, false_and, and_false, or_self, and_self, not_true_eq_false, not_false_eq_true, eq_self, List.length_cons, List.length_nil, Nat.reduceAdd, Nat.reduceLT, Nat.reduceSub, List.set_cons_succ, List.set_cons_zero, Option.toList, List.nil_append, List.cons_append, cI_ltT, cI_ltF, cI_leT, cI_leF, cI_eqT, cI_eqF, cI_cl, cN_leT, cN_leF, cN_ltT, cN_ltF, cN_eqT, cN_eqF, cI_add, cI_sub, cI_m1a, cI_m1b, cI_m1c, cI_m1d, cI_m1e, cI_m1f, o1, o8, hcl, hix, e, va_rf]
      · by_cases c : f = i
        · rw [c, e] at h3; cases h3
        · exact i2 f t (by omega) h2 h3
    | some t =>
      obtain ⟨n6, n8, w, hw⟩ := ht i t (by omega) e
      have op : ∀ v K, ae_pw H t 8 1 v K = K (ah_set H t (.inr (8, [.ref (t + 1), v]))) := fun v K => by unfold ae_pw; rw [hw]; rfl
      obtain ⟨H2, i1, i2, i3, i4⟩ := ih (i + 1) (ah_set H t (.inr (8, [.ref (t + 1), .int (nI 0)]))) (by omega) (by rw [hs_ne (Ne.symm n6)]; exact h6) (by rw [hs_ne (Ne.symm n8)]; exact h8) (fun f t2 hf2 h3 => by
        obtain ⟨m6, m8, w2, hw2⟩ := ht f t2 hf2 h3
        refine ⟨m6, m8, ?_⟩
        by_cases c : t2 = t
        · subst c; exact ⟨_, hs_eq rfl⟩
        · exact ⟨w2, by rw [hs_ne c]; exact hw2⟩)
      refine ⟨H2, fun Q => ?_, fun f t2 h1 h2 h3 => ?_, fun a ha => ?_, i4⟩
      · refine Eq.trans ?_ (s_X5_empty_38.trans (i1 Q))
        simp (disch := first | exact ae_isR_ref _ | exact ae_isR_null | exact ae_isR_rf _ | exact ae_cat_ref _ | exact ae_cat_int _ | exact ae_cat_null | exact ae_cat_rf _ | exact ae_nz0 | exact ae_nz1 | exact ae_fz0 | exact ae_fz1 | exact cI_na (by omega) | exact cI_ix (by omega) | exact cI_nn (by omega) | exact cI_nz (by omega) | exact cI_cp (by omega) | assumption | omega) only [s_X5_empty_7, s_X5_empty_8, s_X5_empty_9, s_X5_empty_12, s_X5_empty_13, s_X5_empty_16, s_X5_empty_17, s_X5_empty_20, s_X5_empty_21, s_X5_empty_22_N, s_X5_empty_22, s_X5_empty_25, s_X5_empty_26, s_X5_empty_29, s_X5_empty_30, s_X5_empty_31, s_X5_empty_32, s_X5_empty_35, og_0, og_1, og_2, og_3, og_4, og_5, og_6, og_7, og_8, og_9, og_10, og_11, og_12, op_6, op_8, op_9, op_10, op_11, op_12, dg_0, dg_1, dg_2, dg_3, dp_1, dp_2, dp_3, ng_b, ng_d, mz_m, ms_m, ov_2, nset_d, nset_b, uI_1, uI_2, uR_1, uR_21, uR_22, va_rf, Bool.false_eq_true, ae_Ki, ae_Kb, ae_Kj, ae_Ka, ae_Si, ae_Sb, ae_Sj, ae_Sn, List.getElem?_cons_succ, List.getElem?_cons_zero, ↓reduceIte, if_true, if_false, nI_ofNat, true_or, or_true, false_or, or_false, true_and, and_true, false_and, and_false, or_self, and_self, not_true_eq_false, not_false_eq_true, eq_self, List.length_cons, List.length_nil, Nat.reduceAdd, Nat.reduceLT, Nat.reduceSub, List.set_cons_succ, List.set_cons_zero, Option.toList, List.nil_append, List.cons_append, cI_ltT, cI_ltF, cI_leT, cI_leF, cI_eqT, cI_eqF, cI_cl, cN_leT, cN_leF, cN_ltT, cN_ltF, cN_eqT, cN_eqF, cI_add, cI_sub, cI_m1a, cI_m1b, cI_m1c, cI_m1d, cI_m1e, cI_m1f, o1, o8, hcl, hix, e, va_rf, op]
      · by_cases c : i + 1 ≤ f
        · exact i2 f t2 c h2 h3
        · have hfi : f = i := by omega
          rw [hfi, e] at h3
          cases h3
          by_cases c2 : ∃ g, i + 1 ≤ g ∧ g < 24 ∧ tf g = some t
          · obtain ⟨g, g1, g2, g3⟩ := c2
            exact i2 g t g1 g2 g3
          · rw [i3 t (fun g g1 g2 g3 => c2 ⟨g, g1, g2, g3⟩)]
            exact hs_eq rfl
      · rw [i3 a (fun f h1 h2 => ha f (by omega) h2), hs_ne (fun z => ha i (Nat.le_refl _) (by omega) (by rw [z]; exact e))]
theorem rof_nil (f : Nat) : rof [] f = 0 := rfl
theorem m_X5_empty {G : ah_H} {A A2 : Nat → Nat} {ns ns2 : Nat} {rl : mR} {ro : Nat → Nat} {sp : Nat} {lf tf : Nat → Option Nat} {T : List Nat} {nn cc : Nat → Nat} {fe : Nat → Option Nat} (h : rsK G x A ns rl ro sp lf tf T nn cc) (hx : rsx G x ro fe) : ∃ G2, (∀ Q, ae_wm d mX5_empty [.ref (x + 6)] G Q = Q none G2) ∧ rsK G2 x A2 ns2 [] ro sp lf tf T nn cc ∧ (∀ a, a ≠ x + 6 → ro a < 10 → G2.1 a = G.1 a) ∧ G2.2 = G.2 := by
  obtain ⟨⟨c6, c7, c8, c11, c12, c14⟩, hru, hT, hsp, hfs, hTn⟩ := h
  obtain ⟨x1, x2, x3, x4, x5, x6⟩ := hx
  have z : ∀ k, k ≤ 22 → k ≠ 9 → k ≠ 10 → ro (x + k) = 0 := fun k h1 h2 h3 => x2 _ (by omega) (by omega) (by omega) (by omega)
  have htr : ∀ f t, f < 24 → tf f = some t → ro t = 10 + t ∧ ∃ w, G.1 t = some (.inr (8, [.ref (t + 1), w])) := fun f t hf ht => by
    obtain ⟨e, ad, sz, t1, -⟩ := (hfs f hf).2 t ht
    exact ⟨t1.2.2.2.2.2.2.2.2.1, _, t1.1⟩
  have op : ∀ v K, ae_pw G (x + 6) 5 4 v K = K (ah_set G (x + 6) (.inr (5, [.ref (x + 7), .ref (x + 8), .ref (x + 11), .ref sp, v]))) := fun v K => by unfold ae_pw; rw [c6]; rfl
  obtain ⟨H2, i1, i2, i3, i4⟩ := m_X5_em_loop (d := d) (x := x) (tf := tf) 24 0 (ah_set G (x + 6) (.inr (5, [.ref (x + 7), .ref (x + 8), .ref (x + 11), .ref sp, .int (nI 0)]))) (by omega) (hs_eq rfl) (by rw [hs_ne (by omega)]; exact c8) (fun f t hf ht => by
    obtain ⟨w1, w2, w3⟩ := htr f t hf ht
    have q6 := z 6 (by omega) (by omega) (by omega)
    have q8 := z 8 (by omega) (by omega) (by omega)
    have n6 : t ≠ x + 6 := fun e => by rw [e] at w1; omega
    exact ⟨n6, fun e => by rw [e] at w1; omega, w2, by rw [hs_ne n6]; exact w3⟩)
  have hk : ∀ a, (∀ f, f < 24 → tf f ≠ some a) → a ≠ x + 6 → H2.1 a = G.1 a := fun a h1 h2 => by rw [i3 a (fun f _ hf => h1 f hf), hs_ne h2]
  have hlow : ∀ a, a ≠ x + 6 → ro a < 10 → H2.1 a = G.1 a := fun a h1 h2 => hk a (fun f hf e => by have := (htr f a hf e).1; omega) h1
  have hfx : ∀ k, k ≤ 22 → k ≠ 9 → k ≠ 10 → k ≠ 6 → H2.1 (x + k) = G.1 (x + k) := fun k h1 h2 h3 h4 => hlow _ (by omega) (by rw [z k h1 h2 h3]; omega)
  have h6 : H2.1 (x + 6) = some (.inr (5, [.ref (x + 7), .ref (x + 8), .ref (x + 11), .ref sp, .int (nI 0)])) := by
    rw [i3 _ (fun f _ hf e => ?_)]
    · exact hs_eq rfl
    · have := (htr f _ hf e).1
      rw [z 6 (by omega) (by omega) (by omega)] at this
      omega
  have h22 : H2.2 = G.2 := i4
  -- a cell of no tree's own first place
  have hnt : ∀ a cl, G.1 a = some cl → (∀ w, cl ≠ .inr (8, w)) → a ≠ x + 6 → H2.1 a = G.1 a := fun a cl h1 h2 h3 => hk a (fun f hf e => by
    obtain ⟨w1, w2, w3⟩ := htr f a hf e
    rw [w3] at h1
    cases h1
    exact h2 _ rfl) h3
  have htro : ∀ t e n cap ad sz sz2, tro (fun a => ro a = 10 + t) G t e n cap ad sz → H2.1 t = some (.inr (8, [.ref (t + 1), .int (nI sz2)])) → sz2 ≤ sz → tro (fun a => ro a = 10 + t) H2 t e n cap ad sz2 := fun t e n cap ad sz sz2 ht h1 h2 => by
    obtain ⟨k1, ⟨⟨mc, k2⟩, k3, k4⟩, k5, k6, k7, k8, k9, k10, k11⟩ := ht
    have n6 : ∀ a, ro a = 10 + t → a ≠ x + 6 := fun a ha e => by rw [e, z 6 (by omega) (by omega) (by omega)] at ha; omega
    refine ⟨h1, ⟨⟨mc, by rw [hnt _ _ k2 (fun w e => by cases e) (n6 _ k11.2.1)]; exact k2⟩, ?_, k4⟩, by omega, fun i hi => ?_, k7, by rw [h22]; exact k8, k9, by rw [h22]; exact k10, k11⟩
    · rw [hnt _ _ k3 (fun w e => by cases e) ?_]
      · exact k3
      · intro e
        rw [e, c6] at k3
        cases k3
    · obtain ⟨a, fs, a1, a2, a3, a4, a5⟩ := k6 i hi
      exact ⟨a, fs, a1, by rw [hnt _ _ a2 (fun w e => by cases e) (n6 _ a5)]; exact a2, a3, by rw [h22]; exact a4, a5⟩
  refine ⟨H2, fun Q => ?_, ⟨⟨h6, by rw [hfx 7 (by omega) (by omega) (by omega) (by omega)]; exact c7, by rw [hfx 8 (by omega) (by omega) (by omega) (by omega)]; exact c8, by unfold tmk; rw [hfx 11 (by omega) (by omega) (by omega) (by omega)]; exact c11, ?_, ?_⟩, fun r hr => absurd hr (Nat.not_lt_zero _), hT, ?_, fun f hf => ⟨fun _ => rof_nil f, fun t ht => ?_⟩, by rw [h22]; exact hTn⟩, hlow, h22⟩
  · have i1 := i1 Q
    simp (disch := first | exact ae_isR_ref _ | exact ae_isR_null | exact ae_isR_rf _ | exact ae_cat_ref _ | exact ae_cat_int _ | exact ae_cat_null | exact ae_cat_rf _ | exact ae_nz0 | exact ae_nz1 | exact ae_fz0 | exact ae_fz1 | exact cI_na (by omega) | exact cI_ix (by omega) | exact cI_nn (by omega) | exact cI_nz (by omega) | exact cI_cp (by omega) | assumption | omega) only [s_X5_empty_0, s_X5_empty_1, s_X5_empty_2, s_X5_empty_5, s_X5_empty_6, e_X5_empty, og_0, og_1, og_2, og_3, og_4, og_5, og_6, og_7, og_8, og_9, og_10, og_11, og_12, op_6, op_8, op_9, op_10, op_11, op_12, dg_0, dg_1, dg_2, dg_3, dp_1, dp_2, dp_3, ng_b, ng_d, mz_m, ms_m, ov_2, nset_d, nset_b, uI_1, uI_2, uR_1, uR_21, uR_22, va_rf, Bool.false_eq_true, ae_Ki, ae_Kb, ae_Kj, ae_Ka, ae_Si, ae_Sb, ae_Sj, ae_Sn, List.getElem?_cons_succ, List.getElem?_cons_zero, ↓reduceIte, if_true, if_false, nI_ofNat, true_or, or_true, false_or, or_false, true_and, and_true, false_and, and_false, or_self, and_self, not_true_eq_false, not_false_eq_true, eq_self, List.length_cons, List.length_nil, Nat.reduceAdd, Nat.reduceLT, Nat.reduceSub, List.set_cons_succ, List.set_cons_zero, Option.toList, List.nil_append, List.cons_append, cI_ltT, cI_ltF, cI_leT, cI_leF, cI_eqT, cI_eqF, cI_cl, cN_leT, cN_leF, cN_ltT, cN_ltF, cN_eqT, cN_eqF, cI_add, cI_sub, cI_m1a, cI_m1b, cI_m1c, cI_m1d, cI_m1e, cI_m1f, op, i1]
  · obtain ⟨lp, g, ⟨p1, p2⟩, p3⟩ := c12
    exact ⟨lp, g, ⟨by rw [hfx 12 (by omega) (by omega) (by omega) (by omega)]; exact p1, by rw [show x + 12 + 1 = x + 13 from rfl, hfx 13 (by omega) (by omega) (by omega) (by omega)]; exact p2⟩, p3⟩
  · obtain ⟨f1, c14⟩ := c14
    exact ⟨f1, by rw [hfx 14 (by omega) (by omega) (by omega) (by omega)]; exact c14⟩
  · obtain ⟨e, ad, sz, t1, -⟩ := hsp
    refine ⟨e, ad, sz, htro _ _ _ _ _ _ _ t1 ?_ (Nat.le_refl _), trivial⟩
    rw [hk sp (fun f hf w => (hT.2.2.2 f sp hf w).2.1 rfl) (fun w => by
      have := t1.2.2.2.2.2.2.2.2.1
      rw [w, z 6 (by omega) (by omega) (by omega)] at this
      omega)]
    exact t1.1
  · obtain ⟨e, ad, sz, t1, -⟩ := (hfs f hf).2 t ht
    exact ⟨e, ad, 0, htro _ _ _ _ _ _ _ t1 (i2 f t (by omega) hf ht) (Nat.zero_le _), fun _ => rfl, fun w => absurd (rof_nil f) w⟩
/-- clear -/
theorem m_X10_clear {G : ah_H} {b ns : Nat} {A : Nat → Nat} {F : Nat → Bool} {tp : List Nat} {rl : mR} {v : sV} {B1 B2 j : Nat} (h : CIz G x b ns A F tp rl v B1 B2 j) : ∃ G2, (∀ Q, ae_wm (d + 2) mX10_clear [.ref x] G Q = Q (some (.int (nI ns))) G2) ∧ CIz G2 x b 0 (fun _ => 0) (fun _ => false) [] [] ([], [], nI 0, nI 0, nI 0, nI 0) B1 B2 (j + 1) ∧ kep G G2 x b := by
  obtain ⟨P, c, p, y, fw, ar, fn, ro, sp, lf, tf, T, nn, cc, fe, hc, hl, hb, hbx⟩ := h
  have hc0 := hc
  obtain ⟨h1, ⟨h2, h2a, h2f⟩, h3, h4, h5, h6, h7⟩ := hc
  have h6' := h6
  obtain ⟨x1, x2, x3, x4, x5, x6⟩ := h6'
  have z : ∀ k, k ≤ 22 → k ≠ 9 → k ≠ 10 → ro (x + k) = 0 := fun k h1 h2 h3 => x2 _ (by omega) (by omega) (by omega) (by omega)
  obtain ⟨g, t1, t2, t3, t4⟩ := h3
  -- symbols
  have s1 : sym (ah_set G (x + 1) (.inr (7, [.ref (x + 1 + 1), .ref (x + 1 + 2), .int (nI 0)]))) (x + 1) 0 ar fn := ⟨hs_eq rfl, by rw [hs_ne (by omega)]; exact h2.2.1, by rw [hs_ne (by omega)]; exact h2.2.2⟩
  have op1 : ∀ w K, ae_pw G (x + 1) 7 2 w K = K (ah_set G (x + 1) (.inr (7, [.ref (x + 1 + 1), .ref (x + 1 + 2), w]))) := fun w K => by unfold ae_pw; rw [h2.1]; rfl
  have q1 : nmb (ah_set G (x + 1) (.inr (7, [.ref (x + 1 + 1), .ref (x + 1 + 2), .int (nI 0)]))) (x + 4) 120 g tp.length := ⟨by rw [hs_ne (by omega)]; exact t1.1, by rw [hs_ne (by omega)]; exact t1.2⟩
  generalize hG1 : ah_set G (x + 1) (.inr (7, [.ref (x + 1 + 1), .ref (x + 1 + 2), .int (nI 0)])) = G1 at s1 q1
  have g1 : ∀ a, a ≠ x + 1 → G1.1 a = G.1 a := fun a ha => by rw [← hG1]; exact hs_ne ha
  have g12 : G1.2 = G.2 := by rw [← hG1]; rfl
  have ge := fun Q => m_X1_empty (d := d + 1) (Q := Q) q1
  have g2 : ∀ a, a ≠ x + 1 → a ≠ x + 4 → a ≠ x + 5 → (nset G1 (x + 4) 120 g 0).1 a = G.1 a := fun a q1 q2 q3 => by rw [nset_ne ⟨q2, q3⟩, g1 a q1]
  have g22 : (nset G1 (x + 4) 120 g 0).2 = G.2 := g12
  have tp2 : tpk (nset G1 (x + 4) 120 g 0) x [] := ⟨g, nset_nmb _ _ _ _ _, fun i hi => absurd hi (Nat.not_lt_zero _), by simp, fun i hi => absurd hi (Nat.not_lt_zero _)⟩
  have s2 : sym (nset G1 (x + 4) 120 g 0) (x + 1) 0 ar fn := sym_cg3 (fun a q1 q2 => nset_ne ⟨by omega, by omega⟩) s1
  have fc1 : G1.1 x = _ := (g1 x (by omega)).trans h1
  generalize hG2 : nset G1 (x + 4) 120 g 0 = G2 at ge g2 g22 tp2 s2
  have r2 : rsK G2 x A ns rl ro sp lf tf T nn cc := rsK_cg h5 (fun a ha => by
    have := rsx_E h6 ha
    have w : ∀ k, k ≤ 5 → a ≠ x + k := fun k hk e => by
      rcases ha with q | q | q
      · omega
      · omega
      · rw [e, z k (by omega) (by omega) (by omega)] at q; omega
    exact g2 a (w 1 (by omega)) (w 4 (by omega)) (w 5 (by omega))) (fun _ _ => rfl) (g2 _ (by omega) (by omega) (by omega)) (by rw [g22]; exact Nat.le_refl _) (by rw [g22])
  have x2' : rsx G2 x ro fe := rsx_cg h6 (g2 _ (by omega) (by omega) (by omega)) (by rw [g22]; exact Nat.le_refl _) (by rw [g22])
  obtain ⟨G3, e1, e2, e3, e4⟩ := m_X5_empty (d := d + 1) (A2 := fun _ => 0) (ns2 := 0) r2 x2'
  have g3 : ∀ a, a ≠ x + 1 → a ≠ x + 4 → a ≠ x + 5 → a ≠ x + 6 → ro a < 10 → G3.1 a = G.1 a := fun a q1 q2 q3 q4 q5 => (e3 a q4 q5).trans (g2 a q1 q2 q3)
  have g32 : G3.2 = G.2 := e4.trans g22
  have c3 : cS G3 x P c p y fw v := cS_cg (fun a q1 q2 => g3 a (by omega) (by omega) (by omega) (by omega) (by
    obtain ⟨k, hk⟩ : ∃ k, a = x + k := ⟨a - x, by omega⟩
    rw [hk, z k (by omega) (by omega) (by omega)]; omega)) (fun i b2 hi => by
    obtain ⟨p1, p2, p3⟩ := h7.1 i b2 hi
    have hb2 := (h4.2.2.1.2 i b2 hi).1.1
    exact ⟨g3 _ (by omega) (by omega) (by omega) (by omega) (by omega), g3 _ (by omega) (by omega) (by omega) (by omega) (by omega), g3 _ (by omega) (by omega) (by omega) (by omega) (by omega)⟩) (by rw [g32]; exact Nat.le_refl _) h4
  have x3' : rsx G3 x ro fe := rsx_cg x2' (e3 _ (by rw [g22]; omega) (by rw [g22, x5]; omega)) (by rw [e4]; exact Nat.le_refl _) (by rw [e4])
  have s3 : sym G3 (x + 1) 0 ar fn := sym_cg3 (fun a q1 q2 => e3 a (by omega) (by
    obtain ⟨k, hk⟩ : ∃ k, a = x + k := ⟨a - x, by omega⟩
    rw [hk, z k (by omega) (by omega) (by omega)]; omega)) s2
  have t3' : tpk G3 x [] := tpk_cg (e3 _ (by omega) (by rw [z 4 (by omega) (by omega) (by omega)]; omega)) (e3 _ (by omega) (by rw [z 5 (by omega) (by omega) (by omega)]; omega)) tp2
  have f3 : fac G3 x := (g3 x (by omega) (by omega) (by omega) (by omega) (by have := z 0 (by omega) (by omega) (by omega); rw [show x + 0 = x from rfl] at this; omega)).trans h1
  have ci3 : cix G3 x 0 (fun _ => 0) (fun _ => false) [] [] v P c p y fw ar fn ro sp lf tf T nn cc fe := ⟨f3, ⟨s3, ⟨by omega, fun k hk => absurd hk (Nat.not_lt_zero _), fun _ _ => rfl⟩, ⟨fun k hk => absurd hk (Nat.not_lt_zero _), fun _ _ => rfl⟩⟩, t3', c3, e2, x3', h7⟩
  obtain ⟨G4, y2, m1, m2, m3⟩ := m_X6_empty (d := d) c3
  obtain ⟨ci4, hE4, hro4⟩ := cix_frT ci3 m2 m3
  have hkeep : ∀ a, a < G.2.1 → ro a = 0 → (a < x ∨ x + 22 < a) → G4.1 a = G.1 a := fun a q1 q2 q3 => by
    rw [hE4 a ⟨by rw [g32]; exact q1, by omega, by omega⟩]
    exact g3 a (by omega) (by omega) (by omega) (by omega) (by omega)
  have hN := h4.2.2.2.2.2.2.2.2
  refine ⟨G4, fun Q => ?_, ⟨_, _, _, _, _, _, _, _, _, _, _, _, _, _, _, ci4, ?_, ?_, hbx⟩, fun a q1 q2 => hkeep a (by omega) (h7.2 a q1 q2) (by omega), hkeep b (by omega) hb (by omega)⟩
  · have o0 : ∀ K, ae_gw G x 10 0 K = K (.ref (x + 1)) := fun K => by unfold ae_gw; rw [h1]; rfl
    have o7 : ∀ K, ae_gw G (x + 1) 7 2 K = K (.int (nI ns)) := fun K => by unfold ae_gw; rw [h2.1]; rfl
    have o1 : ∀ K, ae_gw G1 x 10 1 K = K (.ref (x + 4)) := fun K => by unfold ae_gw; rw [fc1]; rfl
    have fc2 : G2.1 x = _ := (g2 x (by omega) (by omega) (by omega)).trans h1
    have o2 : ∀ K, ae_gw G2 x 10 2 K = K (.ref (x + 6)) := fun K => by unfold ae_gw; rw [fc2]; rfl
    have o3 : ∀ K, ae_gw G3 x 10 3 K = K (.ref (x + 15)) := fun K => by unfold ae_gw; rw [f3]; rfl
    have q11 := q1.1
    have r21 := r2.1.1
    have m15 : ∃ w, G3.1 (x + 15) = some (.inr (6, w)) := ⟨of6 x c p y, by rw [c3.2.2.2.1]; simp [ov]⟩
    obtain ⟨w, m15⟩ := m15
    simp (disch := first | exact ae_isR_ref _ | exact ae_isR_null | exact ae_isR_rf _ | exact ae_cat_ref _ | exact ae_cat_int _ | exact ae_cat_null | exact ae_cat_rf _ | exact ae_nz0 | exact ae_nz1 | exact ae_fz0 | exact ae_fz1 | exact cI_na (by omega) | exact cI_ix (by omega) | exact cI_nn (by omega) | exact cI_nz (by omega) | exact cI_cp (by omega) | assumption | omega) only [s_X10_clear_0, s_X10_clear_1, s_X10_clear_4, s_X10_clear_7, s_X10_clear_8, s_X10_clear_9, s_X10_clear_12, s_X10_clear_13, s_X10_clear_16, s_X10_clear_17, s_X10_clear_20 q11, s_X10_clear_23, s_X10_clear_24, s_X10_clear_27 r21, s_X10_clear_30, s_X10_clear_31, s_X10_clear_34 m15, s_X10_clear_37, s_X10_clear_38, e_X10_clear, og_0, og_1, og_2, og_3, og_4, og_5, og_6, og_7, og_8, og_9, og_10, og_11, og_12, op_6, op_8, op_9, op_10, op_11, op_12, dg_0, dg_1, dg_2, dg_3, dp_1, dp_2, dp_3, ng_b, ng_d, mz_m, ms_m, ov_2, nset_d, nset_b, uI_1, uI_2, uR_1, uR_21, uR_22, va_rf, Bool.false_eq_true, ae_Ki, ae_Kb, ae_Kj, ae_Ka, ae_Si, ae_Sb, ae_Sj, ae_Sn, List.getElem?_cons_succ, List.getElem?_cons_zero, ↓reduceIte, if_true, if_false, nI_ofNat, true_or, or_true, false_or, or_false, true_and, and_true, false_and, and_false, or_self, and_self, not_true_eq_false, not_false_eq_true, eq_self, List.length_cons, List.length_nil, Nat.reduceAdd, Nat.reduceLT, Nat.reduceSub, List.set_cons_succ, List.set_cons_zero, Option.toList, List.nil_append, List.cons_append, cI_ltT, cI_ltF, cI_leT, cI_leF, cI_eqT, cI_eqF, cI_cl, cN_leT, cN_leF, cN_ltT, cN_ltF, cN_eqT, cN_eqF, cI_add, cI_sub, cI_m1a, cI_m1b, cI_m1c, cI_m1d, cI_m1e, cI_m1f, o0, o7, op1, hG1, o1, ge, o2, e1, o3, m1]
  · obtain ⟨k1, k2⟩ := hl
    obtain ⟨-, ⟨n1, n2, n3, n4⟩, -⟩ := m3
    refine ⟨?_, ?_⟩
    · rw [n1, g32]; omega
    · rw [n2, g32]; omega
  · rw [hro4 b (by rw [g32]; omega)]; exact hb
end CLR
