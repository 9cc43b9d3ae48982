/-! the law: the loop over the script -/
def lwl (b x i : Nat) : List (Option Value) := [some (.ref b), some (.ref x), some (.ref (x + 29)), some (.int (nI i))]
section LAW
variable {Q : Option Value → ah_H → Prop} {G : ah_H} {x b L : Nat} {xs : Nat → Int32} {j i : Nat}
theorem RLz_cls (h : RLz G x b L xs j) : fac G x ∧ (∃ fs, G.1 (x + 29) = some (.inr (11, fs))) ∧ G.1 b = some (.inl (99, L, .inl xs)) := by
  obtain ⟨ns, A, F, tp, rl, v, hC, ⟨s, r1, -⟩, hm, hb⟩ := h
  obtain ⟨P, c, p, y, fw, ar, fn, ro, sp, lf, tf, T, nn, cc, fe, hc, hl⟩ := hC
  exact ⟨hc.1, ⟨_, (congrArg (fun H : ah_H => H.1 (x + 29)) r1).symm.trans rl_0⟩, hb⟩
/-- one turn -/
def trn (G : ah_H) (x b L : Nat) (xs : Nat → Int32) (j i : Nat) : Prop := ∃ G2, RLz G2 x b L xs (j + 1) ∧ ∀ Q, ae_wp 13 mL_law 18 (lwl b x i) [] G Q = ae_wp 13 mL_law 18 (lwl b x (i + 4)) [] G2 Q
theorem law_clear (h : RLz G x b L xs j) (hi : i + 4 ≤ L) (hL : L ≤ 2048) (hop : xs i &&& nI 15 = nI 0) : trn G x b L xs j i := by
  obtain ⟨G1, G2, w, h1, h2, h3, h4⟩ := sim_clear h
  obtain ⟨f1, ⟨fs, f2⟩, f3⟩ := RLz_cls h
  have f4 : G1.1 (x + 29) = some (.inr (11, fs)) := (h4.1 _ (by omega) (by omega)).trans f2
  have f5 : G1.1 b = some (.inl (99, L, .inl xs)) := h4.2.trans f3
  have z1 : ∀ K, ae_zw G b K = K 99 (L, .inl xs) := fun K => zw_of f3
  have z2 : ∀ K, ae_zw G1 b K = K 99 (L, .inl xs) := fun K => zw_of f5
  refine ⟨G2, h3, fun Q => ?_⟩
  unfold lwl
  refine Eq.trans ?_ s_L_law_424
  simp (disch := first | exact ae_isR_ref _ | exact ae_isR_null | exact ae_isR_rf _ | exact ae_cat_ref _ | exact ae_cat_int _ | exact ae_cat_null | exact ae_cat_rf _ | exact ae_nz0 | exact ae_nz1 | exact ae_fz0 | exact ae_fz1 | exact cI_na (by omega) | exact cI_ix (by omega) | exact cI_nn (by omega) | exact cI_nz (by omega) | exact cI_cp (by omega) | assumption | omega) only [s_L_law_18, s_L_law_19, s_L_law_20, s_L_law_21, s_L_law_22, s_L_law_23, s_L_law_26, s_L_law_27, s_L_law_28, s_L_law_29, s_L_law_31, s_L_law_32_0, s_L_law_92, s_L_law_93 f1, s_L_law_96, s_L_law_97 f4, s_L_law_100, s_L_law_421, og_0, og_1, og_2, og_3, og_4, og_5, og_6, og_7, og_8, og_9, og_10, og_11, og_12, op_6, op_8, op_9, op_10, op_11, op_12, dg_0, dg_1, dg_2, dg_3, dp_1, dp_2, dp_3, ng_b, ng_d, mz_m, ms_m, ov_2, nset_d, nset_b, uI_1, uI_2, uR_1, uR_21, uR_22, va_rf, Bool.false_eq_true, ae_Ki, ae_Kb, ae_Kj, ae_Ka, ae_Si, ae_Sb, ae_Sj, ae_Sn, List.getElem?_cons_succ, List.getElem?_cons_zero, ↓reduceIte, if_true, if_false, nI_ofNat, true_or, or_true, false_or, or_false, true_and, and_true, false_and, and_false, or_self, and_self, not_true_eq_false, not_false_eq_true, eq_self, List.length_cons, List.length_nil, Nat.reduceAdd, Nat.reduceLT, Nat.reduceSub, List.set_cons_succ, List.set_cons_zero, Option.toList, List.nil_append, List.cons_append, cI_ltT, cI_ltF, cI_leT, cI_leF, cI_eqT, cI_eqF, cI_cl, cN_leT, cN_leF, cN_ltT, cN_ltF, cN_eqT, cN_eqF, cI_add, cI_sub, cI_m1a, cI_m1b, cI_m1c, cI_m1d, cI_m1e, cI_m1f, z1, z2, hop, h1, h2]
theorem law_rule (h : RLz G x b L xs j) (hi : i + 4 ≤ L) (hL : L ≤ 2048) (hop : xs i &&& nI 15 = nI 3) : trn G x b L xs j i := by
  obtain ⟨G1, G2, w, h1, h2, h3, h4⟩ := sim_rule h
  obtain ⟨f1, ⟨fs, f2⟩, f3⟩ := RLz_cls h
  have f4 : G1.1 (x + 29) = some (.inr (11, fs)) := (h4.1 _ (by omega) (by omega)).trans f2
  have f5 : G1.1 b = some (.inl (99, L, .inl xs)) := h4.2.trans f3
  have z1 : ∀ K, ae_zw G b K = K 99 (L, .inl xs) := fun K => zw_of f3
  have z2 : ∀ K, ae_zw G1 b K = K 99 (L, .inl xs) := fun K => zw_of f5
  refine ⟨G2, h3, fun Q => ?_⟩
  unfold lwl
  refine Eq.trans ?_ s_L_law_424
  simp (disch := first | exact ae_isR_ref _ | exact ae_isR_null | exact ae_isR_rf _ | exact ae_cat_ref _ | exact ae_cat_int _ | exact ae_cat_null | exact ae_cat_rf _ | exact ae_nz0 | exact ae_nz1 | exact ae_fz0 | exact ae_fz1 | exact cI_na (by omega) | exact cI_ix (by omega) | exact cI_nn (by omega) | exact cI_nz (by omega) | exact cI_cp (by omega) | assumption | omega) only [s_L_law_18, s_L_law_19, s_L_law_20, s_L_law_21, s_L_law_22, s_L_law_23, s_L_law_26, s_L_law_27, s_L_law_28, s_L_law_29, s_L_law_31, s_L_law_32_3, s_L_law_217, s_L_law_218 f1, s_L_law_221, s_L_law_222 f4, s_L_law_225, s_L_law_421, og_0, og_1, og_2, og_3, og_4, og_5, og_6, og_7, og_8, og_9, og_10, og_11, og_12, op_6, op_8, op_9, op_10, op_11, op_12, dg_0, dg_1, dg_2, dg_3, dp_1, dp_2, dp_3, ng_b, ng_d, mz_m, ms_m, ov_2, nset_d, nset_b, uI_1, uI_2, uR_1, uR_21, uR_22, va_rf, Bool.false_eq_true, ae_Ki, ae_Kb, ae_Kj, ae_Ka, ae_Si, ae_Sb, ae_Sj, ae_Sn, List.getElem?_cons_succ, List.getElem?_cons_zero, ↓reduceIte, if_true, if_false, nI_ofNat, true_or, or_true, false_or, or_false, true_and, and_true, false_and, and_false, or_self, and_self, not_true_eq_false, not_false_eq_true, eq_self, List.length_cons, List.length_nil, Nat.reduceAdd, Nat.reduceLT, Nat.reduceSub, List.set_cons_succ, List.set_cons_zero, Option.toList, List.nil_append, List.cons_append, cI_ltT, cI_ltF, cI_leT, cI_leF, cI_eqT, cI_eqF, cI_cl, cN_leT, cN_leF, cN_ltT, cN_ltF, cN_eqT, cN_eqF, cI_add, cI_sub, cI_m1a, cI_m1b, cI_m1c, cI_m1d, cI_m1e, cI_m1f, z1, z2, hop, h1, h2]
theorem law_problem (h : RLz G x b L xs j) (hi : i + 4 ≤ L) (hL : L ≤ 2048) (hop : xs i &&& nI 15 = nI 4) : trn G x b L xs j i := by
  obtain ⟨G1, G2, w, h1, h2, h3, h4⟩ := sim_problem h
  obtain ⟨f1, ⟨fs, f2⟩, f3⟩ := RLz_cls h
  have f4 : G1.1 (x + 29) = some (.inr (11, fs)) := (h4.1 _ (by omega) (by omega)).trans f2
  have f5 : G1.1 b = some (.inl (99, L, .inl xs)) := h4.2.trans f3
  have z1 : ∀ K, ae_zw G b K = K 99 (L, .inl xs) := fun K => zw_of f3
  have z2 : ∀ K, ae_zw G1 b K = K 99 (L, .inl xs) := fun K => zw_of f5
  refine ⟨G2, h3, fun Q => ?_⟩
  unfold lwl
  refine Eq.trans ?_ s_L_law_424
  simp (disch := first | exact ae_isR_ref _ | exact ae_isR_null | exact ae_isR_rf _ | exact ae_cat_ref _ | exact ae_cat_int _ | exact ae_cat_null | exact ae_cat_rf _ | exact ae_nz0 | exact ae_nz1 | exact ae_fz0 | exact ae_fz1 | exact cI_na (by omega) | exact cI_ix (by omega) | exact cI_nn (by omega) | exact cI_nz (by omega) | exact cI_cp (by omega) | assumption | omega) only [s_L_law_18, s_L_law_19, s_L_law_20, s_L_law_21, s_L_law_22, s_L_law_23, s_L_law_26, s_L_law_27, s_L_law_28, s_L_law_29, s_L_law_31, s_L_law_32_4, s_L_law_230, s_L_law_231 f1, s_L_law_234, s_L_law_235 f4, s_L_law_238, s_L_law_421, og_0, og_1, og_2, og_3, og_4, og_5, og_6, og_7, og_8, og_9, og_10, og_11, og_12, op_6, op_8, op_9, op_10, op_11, op_12, dg_0, dg_1, dg_2, dg_3, dp_1, dp_2, dp_3, ng_b, ng_d, mz_m, ms_m, ov_2, nset_d, nset_b, uI_1, uI_2, uR_1, uR_21, uR_22, va_rf, Bool.false_eq_true, ae_Ki, ae_Kb, ae_Kj, ae_Ka, ae_Si, ae_Sb, ae_Sj, ae_Sn, List.getElem?_cons_succ, List.getElem?_cons_zero, ↓reduceIte, if_true, if_false, nI_ofNat, true_or, or_true, false_or, or_false, true_and, and_true, false_and, and_false, or_self, and_self, not_true_eq_false, not_false_eq_true, eq_self, List.length_cons, List.length_nil, Nat.reduceAdd, Nat.reduceLT, Nat.reduceSub, List.set_cons_succ, List.set_cons_zero, Option.toList, List.nil_append, List.cons_append, cI_ltT, cI_ltF, cI_leT, cI_leF, cI_eqT, cI_eqF, cI_cl, cN_leT, cN_leF, cN_ltT, cN_ltF, cN_eqT, cN_eqF, cI_add, cI_sub, cI_m1a, cI_m1b, cI_m1c, cI_m1d, cI_m1e, cI_m1f, z1, z2, hop, h1, h2]
theorem law_solve (h : RLz G x b L xs j) (hi : i + 4 ≤ L) (hL : L ≤ 2048) (hop : xs i &&& nI 15 = nI 5) : trn G x b L xs j i := by
  obtain ⟨G1, G2, w, h1, h2, h3, h4⟩ := sim_solve (n := xs (i + 1)) h
  obtain ⟨f1, ⟨fs, f2⟩, f3⟩ := RLz_cls h
  have f4 : G1.1 (x + 29) = some (.inr (11, fs)) := (h4.1 _ (by omega) (by omega)).trans f2
  have f5 : G1.1 b = some (.inl (99, L, .inl xs)) := h4.2.trans f3
  have z1 : ∀ K, ae_zw G b K = K 99 (L, .inl xs) := fun K => zw_of f3
  have z2 : ∀ K, ae_zw G1 b K = K 99 (L, .inl xs) := fun K => zw_of f5
  refine ⟨G2, h3, fun Q => ?_⟩
  unfold lwl
  refine Eq.trans ?_ s_L_law_424
  simp (disch := first | exact ae_isR_ref _ | exact ae_isR_null | exact ae_isR_rf _ | exact ae_cat_ref _ | exact ae_cat_int _ | exact ae_cat_null | exact ae_cat_rf _ | exact ae_nz0 | exact ae_nz1 | exact ae_fz0 | exact ae_fz1 | exact cI_na (by omega) | exact cI_ix (by omega) | exact cI_nn (by omega) | exact cI_nz (by omega) | exact cI_cp (by omega) | assumption | omega) only [s_L_law_18, s_L_law_19, s_L_law_20, s_L_law_21, s_L_law_22, s_L_law_23, s_L_law_26, s_L_law_27, s_L_law_28, s_L_law_29, s_L_law_31, s_L_law_32_5, s_L_law_243, s_L_law_244, s_L_law_245, s_L_law_246, s_L_law_247, s_L_law_248, s_L_law_249 f1, s_L_law_252, s_L_law_253, s_L_law_254, s_L_law_255, s_L_law_256, s_L_law_257, s_L_law_258 f4, s_L_law_261, s_L_law_421, og_0, og_1, og_2, og_3, og_4, og_5, og_6, og_7, og_8, og_9, og_10, og_11, og_12, op_6, op_8, op_9, op_10, op_11, op_12, dg_0, dg_1, dg_2, dg_3, dp_1, dp_2, dp_3, ng_b, ng_d, mz_m, ms_m, ov_2, nset_d, nset_b, uI_1, uI_2, uR_1, uR_21, uR_22, va_rf, Bool.false_eq_true, ae_Ki, ae_Kb, ae_Kj, ae_Ka, ae_Si, ae_Sb, ae_Sj, ae_Sn, List.getElem?_cons_succ, List.getElem?_cons_zero, ↓reduceIte, if_true, if_false, nI_ofNat, true_or, or_true, false_or, or_false, true_and, and_true, false_and, and_false, or_self, and_self, not_true_eq_false, not_false_eq_true, eq_self, List.length_cons, List.length_nil, Nat.reduceAdd, Nat.reduceLT, Nat.reduceSub, List.set_cons_succ, List.set_cons_zero, Option.toList, List.nil_append, List.cons_append, cI_ltT, cI_ltF, cI_leT, cI_leF, cI_eqT, cI_eqF, cI_cl, cN_leT, cN_leF, cN_ltT, cN_ltF, cN_eqT, cN_eqF, cI_add, cI_sub, cI_m1a, cI_m1b, cI_m1c, cI_m1d, cI_m1e, cI_m1f, z1, z2, hop, h1, h2]
theorem law_solutions (h : RLz G x b L xs j) (hi : i + 4 ≤ L) (hL : L ≤ 2048) (hop : xs i &&& nI 15 = nI 6) : trn G x b L xs j i := by
  obtain ⟨G1, G2, w, h1, h2, h3, h4⟩ := sim_solutions h
  obtain ⟨f1, ⟨fs, f2⟩, f3⟩ := RLz_cls h
  have f4 : G1.1 (x + 29) = some (.inr (11, fs)) := (h4.1 _ (by omega) (by omega)).trans f2
  have f5 : G1.1 b = some (.inl (99, L, .inl xs)) := h4.2.trans f3
  have z1 : ∀ K, ae_zw G b K = K 99 (L, .inl xs) := fun K => zw_of f3
  have z2 : ∀ K, ae_zw G1 b K = K 99 (L, .inl xs) := fun K => zw_of f5
  refine ⟨G2, h3, fun Q => ?_⟩
  unfold lwl
  refine Eq.trans ?_ s_L_law_424
  simp (disch := first | exact ae_isR_ref _ | exact ae_isR_null | exact ae_isR_rf _ | exact ae_cat_ref _ | exact ae_cat_int _ | exact ae_cat_null | exact ae_cat_rf _ | exact ae_nz0 | exact ae_nz1 | exact ae_fz0 | exact ae_fz1 | exact cI_na (by omega) | exact cI_ix (by omega) | exact cI_nn (by omega) | exact cI_nz (by omega) | exact cI_cp (by omega) | assumption | omega) only [s_L_law_18, s_L_law_19, s_L_law_20, s_L_law_21, s_L_law_22, s_L_law_23, s_L_law_26, s_L_law_27, s_L_law_28, s_L_law_29, s_L_law_31, s_L_law_32_6, s_L_law_266, s_L_law_267 f1, s_L_law_270, s_L_law_271 f4, s_L_law_274, s_L_law_421, og_0, og_1, og_2, og_3, og_4, og_5, og_6, og_7, og_8, og_9, og_10, og_11, og_12, op_6, op_8, op_9, op_10, op_11, op_12, dg_0, dg_1, dg_2, dg_3, dp_1, dp_2, dp_3, ng_b, ng_d, mz_m, ms_m, ov_2, nset_d, nset_b, uI_1, uI_2, uR_1, uR_21, uR_22, va_rf, Bool.false_eq_true, ae_Ki, ae_Kb, ae_Kj, ae_Ka, ae_Si, ae_Sb, ae_Sj, ae_Sn, List.getElem?_cons_succ, List.getElem?_cons_zero, ↓reduceIte, if_true, if_false, nI_ofNat, true_or, or_true, false_or, or_false, true_and, and_true, false_and, and_false, or_self, and_self, not_true_eq_false, not_false_eq_true, eq_self, List.length_cons, List.length_nil, Nat.reduceAdd, Nat.reduceLT, Nat.reduceSub, List.set_cons_succ, List.set_cons_zero, Option.toList, List.nil_append, List.cons_append, cI_ltT, cI_ltF, cI_leT, cI_leF, cI_eqT, cI_eqF, cI_cl, cN_leT, cN_leF, cN_ltT, cN_ltF, cN_eqT, cN_eqF, cI_add, cI_sub, cI_m1a, cI_m1b, cI_m1c, cI_m1d, cI_m1e, cI_m1f, z1, z2, hop, h1, h2]
theorem law_answer (h : RLz G x b L xs j) (hi : i + 4 ≤ L) (hL : L ≤ 2048) (hop : xs i &&& nI 15 = nI 7) : trn G x b L xs j i := by
  obtain ⟨G1, G2, w, h1, h2, h3, h4⟩ := sim_answer (i := xs (i + 1)) (u := xs (i + 2)) (k := xs (i + 3)) h
  obtain ⟨f1, ⟨fs, f2⟩, f3⟩ := RLz_cls h
  have f4 : G1.1 (x + 29) = some (.inr (11, fs)) := (h4.1 _ (by omega) (by omega)).trans f2
  have f5 : G1.1 b = some (.inl (99, L, .inl xs)) := h4.2.trans f3
  have z1 : ∀ K, ae_zw G b K = K 99 (L, .inl xs) := fun K => zw_of f3
  have z2 : ∀ K, ae_zw G1 b K = K 99 (L, .inl xs) := fun K => zw_of f5
  refine ⟨G2, h3, fun Q => ?_⟩
  unfold lwl
  refine Eq.trans ?_ s_L_law_424
  simp (disch := first | exact ae_isR_ref _ | exact ae_isR_null | exact ae_isR_rf _ | exact ae_cat_ref _ | exact ae_cat_int _ | exact ae_cat_null | exact ae_cat_rf _ | exact ae_nz0 | exact ae_nz1 | exact ae_fz0 | exact ae_fz1 | exact cI_na (by omega) | exact cI_ix (by omega) | exact cI_nn (by omega) | exact cI_nz (by omega) | exact cI_cp (by omega) | assumption | omega) only [s_L_law_18, s_L_law_19, s_L_law_20, s_L_law_21, s_L_law_22, s_L_law_23, s_L_law_26, s_L_law_27, s_L_law_28, s_L_law_29, s_L_law_31, s_L_law_32_7, s_L_law_279, s_L_law_280, s_L_law_281, s_L_law_282, s_L_law_283, s_L_law_284, s_L_law_285, s_L_law_286, s_L_law_287, s_L_law_288, s_L_law_289, s_L_law_290, s_L_law_291, s_L_law_292, s_L_law_293, s_L_law_294, s_L_law_295 f1, s_L_law_298, s_L_law_299, s_L_law_300, s_L_law_301, s_L_law_302, s_L_law_303, s_L_law_304, s_L_law_305, s_L_law_306, s_L_law_307, s_L_law_308, s_L_law_309, s_L_law_310, s_L_law_311, s_L_law_312, s_L_law_313, s_L_law_314 f4, s_L_law_317, s_L_law_421, og_0, og_1, og_2, og_3, og_4, og_5, og_6, og_7, og_8, og_9, og_10, og_11, og_12, op_6, op_8, op_9, op_10, op_11, op_12, dg_0, dg_1, dg_2, dg_3, dp_1, dp_2, dp_3, ng_b, ng_d, mz_m, ms_m, ov_2, nset_d, nset_b, uI_1, uI_2, uR_1, uR_21, uR_22, va_rf, Bool.false_eq_true, ae_Ki, ae_Kb, ae_Kj, ae_Ka, ae_Si, ae_Sb, ae_Sj, ae_Sn, List.getElem?_cons_succ, List.getElem?_cons_zero, ↓reduceIte, if_true, if_false, nI_ofNat, true_or, or_true, false_or, or_false, true_and, and_true, false_and, and_false, or_self, and_self, not_true_eq_false, not_false_eq_true, eq_self, List.length_cons, List.length_nil, Nat.reduceAdd, Nat.reduceLT, Nat.reduceSub, List.set_cons_succ, List.set_cons_zero, Option.toList, List.nil_append, List.cons_append, cI_ltT, cI_ltF, cI_leT, cI_leF, cI_eqT, cI_eqF, cI_cl, cN_leT, cN_leF, cN_ltT, cN_ltF, cN_eqT, cN_eqF, cI_add, cI_sub, cI_m1a, cI_m1b, cI_m1c, cI_m1d, cI_m1e, cI_m1f, z1, z2, hop, h1, h2]
theorem law_node (h : RLz G x b L xs j) (hi : i + 4 ≤ L) (hL : L ≤ 2048) (hop : xs i &&& nI 15 = nI 8) : trn G x b L xs j i := by
  obtain ⟨G1, G2, w, h1, h2, h3, h4⟩ := sim_node (f := xs (i + 1)) (k := xs (i + 2)) (t := xs (i + 3)) h
  obtain ⟨f1, ⟨fs, f2⟩, f3⟩ := RLz_cls h
  have f4 : G1.1 (x + 29) = some (.inr (11, fs)) := (h4.1 _ (by omega) (by omega)).trans f2
  have f5 : G1.1 b = some (.inl (99, L, .inl xs)) := h4.2.trans f3
  have z1 : ∀ K, ae_zw G b K = K 99 (L, .inl xs) := fun K => zw_of f3
  have z2 : ∀ K, ae_zw G1 b K = K 99 (L, .inl xs) := fun K => zw_of f5
  refine ⟨G2, h3, fun Q => ?_⟩
  unfold lwl
  refine Eq.trans ?_ s_L_law_424
  simp (disch := first | exact ae_isR_ref _ | exact ae_isR_null | exact ae_isR_rf _ | exact ae_cat_ref _ | exact ae_cat_int _ | exact ae_cat_null | exact ae_cat_rf _ | exact ae_nz0 | exact ae_nz1 | exact ae_fz0 | exact ae_fz1 | exact cI_na (by omega) | exact cI_ix (by omega) | exact cI_nn (by omega) | exact cI_nz (by omega) | exact cI_cp (by omega) | assumption | omega) only [s_L_law_18, s_L_law_19, s_L_law_20, s_L_law_21, s_L_law_22, s_L_law_23, s_L_law_26, s_L_law_27, s_L_law_28, s_L_law_29, s_L_law_31, s_L_law_32_8, s_L_law_322, s_L_law_323, s_L_law_324, s_L_law_325, s_L_law_326, s_L_law_327, s_L_law_328, s_L_law_329, s_L_law_330, s_L_law_331, s_L_law_332, s_L_law_333, s_L_law_334, s_L_law_335, s_L_law_336, s_L_law_337, s_L_law_338 f1, s_L_law_341, s_L_law_342, s_L_law_343, s_L_law_344, s_L_law_345, s_L_law_346, s_L_law_347, s_L_law_348, s_L_law_349, s_L_law_350, s_L_law_351, s_L_law_352, s_L_law_353, s_L_law_354, s_L_law_355, s_L_law_356, s_L_law_357 f4, s_L_law_360, s_L_law_421, og_0, og_1, og_2, og_3, og_4, og_5, og_6, og_7, og_8, og_9, og_10, og_11, og_12, op_6, op_8, op_9, op_10, op_11, op_12, dg_0, dg_1, dg_2, dg_3, dp_1, dp_2, dp_3, ng_b, ng_d, mz_m, ms_m, ov_2, nset_d, nset_b, uI_1, uI_2, uR_1, uR_21, uR_22, va_rf, Bool.false_eq_true, ae_Ki, ae_Kb, ae_Kj, ae_Ka, ae_Si, ae_Sb, ae_Sj, ae_Sn, List.getElem?_cons_succ, List.getElem?_cons_zero, ↓reduceIte, if_true, if_false, nI_ofNat, true_or, or_true, false_or, or_false, true_and, and_true, false_and, and_false, or_self, and_self, not_true_eq_false, not_false_eq_true, eq_self, List.length_cons, List.length_nil, Nat.reduceAdd, Nat.reduceLT, Nat.reduceSub, List.set_cons_succ, List.set_cons_zero, Option.toList, List.nil_append, List.cons_append, cI_ltT, cI_ltF, cI_leT, cI_leF, cI_eqT, cI_eqF, cI_cl, cN_leT, cN_leF, cN_ltT, cN_ltF, cN_eqT, cN_eqF, cI_add, cI_sub, cI_m1a, cI_m1b, cI_m1c, cI_m1d, cI_m1e, cI_m1f, z1, z2, hop, h1, h2]
theorem law_waiting (h : RLz G x b L xs j) (hi : i + 4 ≤ L) (hL : L ≤ 2048) (hop : xs i &&& nI 15 = nI 9) : trn G x b L xs j i := by
  obtain ⟨G1, G2, w, h1, h2, h3, h4⟩ := sim_waiting (i := xs (i + 1)) (t := xs (i + 2)) h
  obtain ⟨f1, ⟨fs, f2⟩, f3⟩ := RLz_cls h
  have f4 : G1.1 (x + 29) = some (.inr (11, fs)) := (h4.1 _ (by omega) (by omega)).trans f2
  have f5 : G1.1 b = some (.inl (99, L, .inl xs)) := h4.2.trans f3
  have z1 : ∀ K, ae_zw G b K = K 99 (L, .inl xs) := fun K => zw_of f3
  have z2 : ∀ K, ae_zw G1 b K = K 99 (L, .inl xs) := fun K => zw_of f5
  refine ⟨G2, h3, fun Q => ?_⟩
  unfold lwl
  refine Eq.trans ?_ s_L_law_424
  simp (disch := first | exact ae_isR_ref _ | exact ae_isR_null | exact ae_isR_rf _ | exact ae_cat_ref _ | exact ae_cat_int _ | exact ae_cat_null | exact ae_cat_rf _ | exact ae_nz0 | exact ae_nz1 | exact ae_fz0 | exact ae_fz1 | exact cI_na (by omega) | exact cI_ix (by omega) | exact cI_nn (by omega) | exact cI_nz (by omega) | exact cI_cp (by omega) | assumption | omega) only [s_L_law_18, s_L_law_19, s_L_law_20, s_L_law_21, s_L_law_22, s_L_law_23, s_L_law_26, s_L_law_27, s_L_law_28, s_L_law_29, s_L_law_31, s_L_law_32_9, s_L_law_365, s_L_law_366, s_L_law_367, s_L_law_368, s_L_law_369, s_L_law_370, s_L_law_371, s_L_law_372, s_L_law_373, s_L_law_374, s_L_law_375, s_L_law_376 f1, s_L_law_379, s_L_law_380, s_L_law_381, s_L_law_382, s_L_law_383, s_L_law_384, s_L_law_385, s_L_law_386, s_L_law_387, s_L_law_388, s_L_law_389, s_L_law_390 f4, s_L_law_393, s_L_law_421, og_0, og_1, og_2, og_3, og_4, og_5, og_6, og_7, og_8, og_9, og_10, og_11, og_12, op_6, op_8, op_9, op_10, op_11, op_12, dg_0, dg_1, dg_2, dg_3, dp_1, dp_2, dp_3, ng_b, ng_d, mz_m, ms_m, ov_2, nset_d, nset_b, uI_1, uI_2, uR_1, uR_21, uR_22, va_rf, Bool.false_eq_true, ae_Ki, ae_Kb, ae_Kj, ae_Ka, ae_Si, ae_Sb, ae_Sj, ae_Sn, List.getElem?_cons_succ, List.getElem?_cons_zero, ↓reduceIte, if_true, if_false, nI_ofNat, true_or, or_true, false_or, or_false, true_and, and_true, false_and, and_false, or_self, and_self, not_true_eq_false, not_false_eq_true, eq_self, List.length_cons, List.length_nil, Nat.reduceAdd, Nat.reduceLT, Nat.reduceSub, List.set_cons_succ, List.set_cons_zero, Option.toList, List.nil_append, List.cons_append, cI_ltT, cI_ltF, cI_leT, cI_leF, cI_eqT, cI_eqF, cI_cl, cN_leT, cN_leF, cN_ltT, cN_ltF, cN_eqT, cN_eqF, cI_add, cI_sub, cI_m1a, cI_m1b, cI_m1c, cI_m1d, cI_m1e, cI_m1f, z1, z2, hop, h1, h2]
theorem law_count (h : RLz G x b L xs j) (hi : i + 4 ≤ L) (hL : L ≤ 2048) (hop : xs i &&& nI 15 = nI 10) : trn G x b L xs j i := by
  obtain ⟨G1, G2, w, h1, h2, h3, h4⟩ := sim_count (z := xs (i + 1)) h
  obtain ⟨f1, ⟨fs, f2⟩, f3⟩ := RLz_cls h
  have f4 : G1.1 (x + 29) = some (.inr (11, fs)) := (h4.1 _ (by omega) (by omega)).trans f2
  have f5 : G1.1 b = some (.inl (99, L, .inl xs)) := h4.2.trans f3
  have z1 : ∀ K, ae_zw G b K = K 99 (L, .inl xs) := fun K => zw_of f3
  have z2 : ∀ K, ae_zw G1 b K = K 99 (L, .inl xs) := fun K => zw_of f5
  refine ⟨G2, h3, fun Q => ?_⟩
  unfold lwl
  refine Eq.trans ?_ s_L_law_424
  simp (disch := first | exact ae_isR_ref _ | exact ae_isR_null | exact ae_isR_rf _ | exact ae_cat_ref _ | exact ae_cat_int _ | exact ae_cat_null | exact ae_cat_rf _ | exact ae_nz0 | exact ae_nz1 | exact ae_fz0 | exact ae_fz1 | exact cI_na (by omega) | exact cI_ix (by omega) | exact cI_nn (by omega) | exact cI_nz (by omega) | exact cI_cp (by omega) | assumption | omega) only [s_L_law_18, s_L_law_19, s_L_law_20, s_L_law_21, s_L_law_22, s_L_law_23, s_L_law_26, s_L_law_27, s_L_law_28, s_L_law_29, s_L_law_31, s_L_law_32_10, s_L_law_398, s_L_law_399, s_L_law_400, s_L_law_401, s_L_law_402, s_L_law_403, s_L_law_404 f1, s_L_law_407, s_L_law_408, s_L_law_409, s_L_law_410, s_L_law_411, s_L_law_412, s_L_law_413 f4, s_L_law_416, s_L_law_421, og_0, og_1, og_2, og_3, og_4, og_5, og_6, og_7, og_8, og_9, og_10, og_11, og_12, op_6, op_8, op_9, op_10, op_11, op_12, dg_0, dg_1, dg_2, dg_3, dp_1, dp_2, dp_3, ng_b, ng_d, mz_m, ms_m, ov_2, nset_d, nset_b, uI_1, uI_2, uR_1, uR_21, uR_22, va_rf, Bool.false_eq_true, ae_Ki, ae_Kb, ae_Kj, ae_Ka, ae_Si, ae_Sb, ae_Sj, ae_Sn, List.getElem?_cons_succ, List.getElem?_cons_zero, ↓reduceIte, if_true, if_false, nI_ofNat, true_or, or_true, false_or, or_false, true_and, and_true, false_and, and_false, or_self, and_self, not_true_eq_false, not_false_eq_true, eq_self, List.length_cons, List.length_nil, Nat.reduceAdd, Nat.reduceLT, Nat.reduceSub, List.set_cons_succ, List.set_cons_zero, Option.toList, List.nil_append, List.cons_append, cI_ltT, cI_ltF, cI_leT, cI_leF, cI_eqT, cI_eqF, cI_cl, cN_leT, cN_leF, cN_ltT, cN_ltF, cN_eqT, cN_eqF, cI_add, cI_sub, cI_m1a, cI_m1b, cI_m1c, cI_m1d, cI_m1e, cI_m1f, z1, z2, hop, h1, h2]
theorem law_feed (h : RLz G x b L xs j) (hi : i + 4 ≤ L) (hL : L ≤ 2048) (hop : xs i &&& nI 15 = nI 2) : trn G x b L xs j i := by
  obtain ⟨G1, G2, w, h1, h2, h3, h4⟩ := sim_feed (w := (xs (i + 1)).toInt64 <<< ((nI 32).toInt64 &&& 63) ||| (xs (i + 2)).toInt64 &&& 4294967295) (n := xs (i + 3)) h
  obtain ⟨f1, ⟨fs, f2⟩, f3⟩ := RLz_cls h
  have f4 : G1.1 (x + 29) = some (.inr (11, fs)) := (h4.1 _ (by omega) (by omega)).trans f2
  have f5 : G1.1 b = some (.inl (99, L, .inl xs)) := h4.2.trans f3
  have z1 : ∀ K, ae_zw G b K = K 99 (L, .inl xs) := fun K => zw_of f3
  have z2 : ∀ K, ae_zw G1 b K = K 99 (L, .inl xs) := fun K => zw_of f5
  refine ⟨G2, h3, fun Q => ?_⟩
  unfold lwl
  refine Eq.trans ?_ s_L_law_424
  simp (disch := first | exact ae_isR_ref _ | exact ae_isR_null | exact ae_isR_rf _ | exact ae_cat_ref _ | exact ae_cat_int _ | exact ae_cat_null | exact ae_cat_rf _ | exact ae_nz0 | exact ae_nz1 | exact ae_fz0 | exact ae_fz1 | exact cI_na (by omega) | exact cI_ix (by omega) | exact cI_nn (by omega) | exact cI_nz (by omega) | exact cI_cp (by omega) | assumption | omega) only [s_L_law_18, s_L_law_19, s_L_law_20, s_L_law_21, s_L_law_22, s_L_law_23, s_L_law_26, s_L_law_27, s_L_law_28, s_L_law_29, s_L_law_31, s_L_law_32_2, s_L_law_154, s_L_law_155, s_L_law_156, s_L_law_157, s_L_law_158, s_L_law_159, s_L_law_160, s_L_law_161, s_L_law_163, s_L_law_164, s_L_law_165, s_L_law_166, s_L_law_167, s_L_law_168, s_L_law_169, s_L_law_170, s_L_law_173, s_L_law_174, s_L_law_175, s_L_law_176, s_L_law_177, s_L_law_178, s_L_law_179, s_L_law_180 f1, s_L_law_183, s_L_law_184, s_L_law_185, s_L_law_186, s_L_law_187, s_L_law_188, s_L_law_189, s_L_law_190, s_L_law_192, s_L_law_193, s_L_law_194, s_L_law_195, s_L_law_196, s_L_law_197, s_L_law_198, s_L_law_199, s_L_law_202, s_L_law_203, s_L_law_204, s_L_law_205, s_L_law_206, s_L_law_207, s_L_law_208, s_L_law_209 f4, s_L_law_212, s_L_law_421, og_0, og_1, og_2, og_3, og_4, og_5, og_6, og_7, og_8, og_9, og_10, og_11, og_12, op_6, op_8, op_9, op_10, op_11, op_12, dg_0, dg_1, dg_2, dg_3, dp_1, dp_2, dp_3, ng_b, ng_d, mz_m, ms_m, ov_2, nset_d, nset_b, uI_1, uI_2, uR_1, uR_21, uR_22, va_rf, Bool.false_eq_true, ae_Ki, ae_Kb, ae_Kj, ae_Ka, ae_Si, ae_Sb, ae_Sj, ae_Sn, List.getElem?_cons_succ, List.getElem?_cons_zero, ↓reduceIte, if_true, if_false, nI_ofNat, true_or, or_true, false_or, or_false, true_and, and_true, false_and, and_false, or_self, and_self, not_true_eq_false, not_false_eq_true, eq_self, List.length_cons, List.length_nil, Nat.reduceAdd, Nat.reduceLT, Nat.reduceSub, List.set_cons_succ, List.set_cons_zero, Option.toList, List.nil_append, List.cons_append, cI_ltT, cI_ltF, cI_leT, cI_leF, cI_eqT, cI_eqF, cI_cl, cN_leT, cN_leF, cN_ltT, cN_ltF, cN_eqT, cN_eqF, cI_add, cI_sub, cI_m1a, cI_m1b, cI_m1c, cI_m1d, cI_m1e, cI_m1f, z1, z2, hop, h1, h2]
theorem law_symbol (h : RLz G x b L xs j) (hi : i + 4 ≤ L) (hL : L ≤ 2048) (hop : xs i &&& nI 15 = nI 1) : trn G x b L xs j i := by
  by_cases hz : xs (i + 1) = nI 0
  · have hs := sim_symbol (bo := false) (many := xs (i + 2)) h
    rw [if_neg Bool.false_ne_true] at hs
    obtain ⟨G1, G2, w, h1, h2, h3, h4⟩ := hs
    obtain ⟨f1, ⟨fs, f2⟩, f3⟩ := RLz_cls h
    have f4 : G1.1 (x + 29) = some (.inr (11, fs)) := (h4.1 _ (by omega) (by omega)).trans f2
    have f5 : G1.1 b = some (.inl (99, L, .inl xs)) := h4.2.trans f3
    have z1 : ∀ K, ae_zw G b K = K 99 (L, .inl xs) := fun K => zw_of f3
    have z2 : ∀ K, ae_zw G1 b K = K 99 (L, .inl xs) := fun K => zw_of f5
    refine ⟨G2, h3, fun Q => ?_⟩
    unfold lwl
    refine Eq.trans ?_ s_L_law_424
    simp (disch := first | exact ae_isR_ref _ | exact ae_isR_null | exact ae_isR_rf _ | exact ae_cat_ref _ | exact ae_cat_int _ | exact ae_cat_null | exact ae_cat_rf _ | exact ae_nz0 | exact ae_nz1 | exact ae_fz0 | exact ae_fz1 | exact cI_na (by omega) | exact cI_ix (by omega) | exact cI_nn (by omega) | exact cI_nz (by omega) | exact cI_cp (by omega) | assumption | omega) only [s_L_law_18, s_L_law_19, s_L_law_20, s_L_law_21, s_L_law_22, s_L_law_23, s_L_law_26, s_L_law_27, s_L_law_28, s_L_law_29, s_L_law_31, s_L_law_32_1, s_L_law_105, s_L_law_106, s_L_law_107, s_L_law_108, s_L_law_109, s_L_law_110, s_L_law_111, s_L_law_114, s_L_law_115, s_L_law_118, s_L_law_119, s_L_law_120, s_L_law_121, s_L_law_122, s_L_law_123, s_L_law_124 f1, s_L_law_127, s_L_law_128, s_L_law_129, s_L_law_130, s_L_law_131, s_L_law_132, s_L_law_133, s_L_law_136, s_L_law_137, s_L_law_140, s_L_law_141, s_L_law_142, s_L_law_143, s_L_law_144, s_L_law_145, s_L_law_146 f4, s_L_law_149, s_L_law_421, og_0, og_1, og_2, og_3, og_4, og_5, og_6, og_7, og_8, og_9, og_10, og_11, og_12, op_6, op_8, op_9, op_10, op_11, op_12, dg_0, dg_1, dg_2, dg_3, dp_1, dp_2, dp_3, ng_b, ng_d, mz_m, ms_m, ov_2, nset_d, nset_b, uI_1, uI_2, uR_1, uR_21, uR_22, va_rf, Bool.false_eq_true, ae_Ki, ae_Kb, ae_Kj, ae_Ka, ae_Si, ae_Sb, ae_Sj, ae_Sn, List.getElem?_cons_succ, List.getElem?_cons_zero, ↓reduceIte, if_true, if_false, nI_ofNat, true_or, or_true, false_or, or_false, true_and, and_true, false_and, and_false, or_self, and_self, not_true_eq_false, not_false_eq_true, eq_self, List.length_cons, List.length_nil, Nat.reduceAdd, Nat.reduceLT, Nat.reduceSub, List.set_cons_succ, List.set_cons_zero, Option.toList, List.nil_append, List.cons_append, cI_ltT, cI_ltF, cI_leT, cI_leF, cI_eqT, cI_eqF, cI_cl, cN_leT, cN_leF, cN_ltT, cN_ltF, cN_eqT, cN_eqF, cI_add, cI_sub, cI_m1a, cI_m1b, cI_m1c, cI_m1d, cI_m1e, cI_m1f, z1, z2, hop, h1, h2, hz]
  · have hs := sim_symbol (bo := true) (many := xs (i + 2)) h
    rw [if_pos rfl] at hs
    obtain ⟨G1, G2, w, h1, h2, h3, h4⟩ := hs
    obtain ⟨f1, ⟨fs, f2⟩, f3⟩ := RLz_cls h
    have f4 : G1.1 (x + 29) = some (.inr (11, fs)) := (h4.1 _ (by omega) (by omega)).trans f2
    have f5 : G1.1 b = some (.inl (99, L, .inl xs)) := h4.2.trans f3
    have z1 : ∀ K, ae_zw G b K = K 99 (L, .inl xs) := fun K => zw_of f3
    have z2 : ∀ K, ae_zw G1 b K = K 99 (L, .inl xs) := fun K => zw_of f5
    refine ⟨G2, h3, fun Q => ?_⟩
    unfold lwl
    refine Eq.trans ?_ s_L_law_424
    simp (disch := first | exact ae_isR_ref _ | exact ae_isR_null | exact ae_isR_rf _ | exact ae_cat_ref _ | exact ae_cat_int _ | exact ae_cat_null | exact ae_cat_rf _ | exact ae_nz0 | exact ae_nz1 | exact ae_fz0 | exact ae_fz1 | exact cI_na (by omega) | exact cI_ix (by omega) | exact cI_nn (by omega) | exact cI_nz (by omega) | exact cI_cp (by omega) | assumption | omega) only [s_L_law_18, s_L_law_19, s_L_law_20, s_L_law_21, s_L_law_22, s_L_law_23, s_L_law_26, s_L_law_27, s_L_law_28, s_L_law_29, s_L_law_31, s_L_law_32_1, s_L_law_105, s_L_law_106, s_L_law_107, s_L_law_108, s_L_law_109, s_L_law_110, s_L_law_111, s_L_law_114, s_L_law_115, s_L_law_118, s_L_law_119, s_L_law_120, s_L_law_121, s_L_law_122, s_L_law_123, s_L_law_124 f1, s_L_law_127, s_L_law_128, s_L_law_129, s_L_law_130, s_L_law_131, s_L_law_132, s_L_law_133, s_L_law_136, s_L_law_137, s_L_law_140, s_L_law_141, s_L_law_142, s_L_law_143, s_L_law_144, s_L_law_145, s_L_law_146 f4, s_L_law_149, s_L_law_421, og_0, og_1, og_2, og_3, og_4, og_5, og_6, og_7, og_8, og_9, og_10, og_11, og_12, op_6, op_8, op_9, op_10, op_11, op_12, dg_0, dg_1, dg_2, dg_3, dp_1, dp_2, dp_3, ng_b, ng_d, mz_m, ms_m, ov_2, nset_d, nset_b, uI_1, uI_2, uR_1, uR_21, uR_22, va_rf, Bool.false_eq_true, ae_Ki, ae_Kb, ae_Kj, ae_Ka, ae_Si, ae_Sb, ae_Sj, ae_Sn, List.getElem?_cons_succ, List.getElem?_cons_zero, ↓reduceIte, if_true, if_false, nI_ofNat, true_or, or_true, false_or, or_false, true_and, and_true, false_and, and_false, or_self, and_self, not_true_eq_false, not_false_eq_true, eq_self, List.length_cons, List.length_nil, Nat.reduceAdd, Nat.reduceLT, Nat.reduceSub, List.set_cons_succ, List.set_cons_zero, Option.toList, List.nil_append, List.cons_append, cI_ltT, cI_ltF, cI_leT, cI_leF, cI_eqT, cI_eqF, cI_cl, cN_leT, cN_leF, cN_ltT, cN_ltF, cN_eqT, cN_eqF, cI_add, cI_sub, cI_m1a, cI_m1b, cI_m1c, cI_m1d, cI_m1e, cI_m1f, z1, z2, hop, h1, h2, hz]
theorem law_other (h : RLz G x b L xs j) (hi : i + 4 ≤ L) (hL : L ≤ 2048) (hx : (xs i &&& nI 15).toInt < 0 ∨ 10 < (xs i &&& nI 15).toInt) : trn G x b L xs j i := by
  obtain ⟨f1, ⟨fs, f2⟩, f3⟩ := RLz_cls h
  have z1 : ∀ K, ae_zw G b K = K 99 (L, .inl xs) := fun K => zw_of f3
  refine ⟨G, RLz_j h, fun Q => ?_⟩
  unfold lwl
  refine Eq.trans ?_ s_L_law_424
  simp (disch := first | exact ae_isR_ref _ | exact ae_isR_null | exact ae_isR_rf _ | exact ae_cat_ref _ | exact ae_cat_int _ | exact ae_cat_null | exact ae_cat_rf _ | exact ae_nz0 | exact ae_nz1 | exact ae_fz0 | exact ae_fz1 | exact cI_na (by omega) | exact cI_ix (by omega) | exact cI_nn (by omega) | exact cI_nz (by omega) | exact cI_cp (by omega) | assumption | omega) only [s_L_law_18, s_L_law_19, s_L_law_20, s_L_law_21, s_L_law_22, s_L_law_23, s_L_law_26, s_L_law_27, s_L_law_28, s_L_law_29, s_L_law_31, s_L_law_32_D, s_L_law_421, og_0, og_1, og_2, og_3, og_4, og_5, og_6, og_7, og_8, og_9, og_10, og_11, og_12, op_6, op_8, op_9, op_10, op_11, op_12, dg_0, dg_1, dg_2, dg_3, dp_1, dp_2, dp_3, ng_b, ng_d, mz_m, ms_m, ov_2, nset_d, nset_b, uI_1, uI_2, uR_1, uR_21, uR_22, va_rf, Bool.false_eq_true, ae_Ki, ae_Kb, ae_Kj, ae_Ka, ae_Si, ae_Sb, ae_Sj, ae_Sn, List.getElem?_cons_succ, List.getElem?_cons_zero, ↓reduceIte, if_true, if_false, nI_ofNat, true_or, or_true, false_or, or_false, true_and, and_true, false_and, and_false, or_self, and_self, not_true_eq_false, not_false_eq_true, eq_self, List.length_cons, List.length_nil, Nat.reduceAdd, Nat.reduceLT, Nat.reduceSub, List.set_cons_succ, List.set_cons_zero, Option.toList, List.nil_append, List.cons_append, cI_ltT, cI_ltF, cI_leT, cI_leF, cI_eqT, cI_eqF, cI_cl, cN_leT, cN_leF, cN_ltT, cN_ltF, cN_eqT, cN_eqF, cI_add, cI_sub, cI_m1a, cI_m1b, cI_m1c, cI_m1d, cI_m1e, cI_m1f, z1]
theorem law_turn (h : RLz G x b L xs j) (hi : i + 4 ≤ L) (hL : L ≤ 2048) : trn G x b L xs j i := by
  by_cases hx : (xs i &&& nI 15).toInt < 0 ∨ 10 < (xs i &&& nI 15).toInt
  · exact law_other h hi hL hx
  · rcases i32_cases (xs i &&& nI 15) with w | ⟨n, hn, e⟩
    · exfalso
      have h2 := Int32.lt_iff_toInt_lt.mp w
      rw [toInt_nI (by omega)] at h2
      exact hx (Or.inl (by simpa using h2))
    · rw [e, toInt_nI hn] at hx
      have hn10 : n ≤ 10 := by omega
      match n, hn10, e with
      | 0, _, e => exact law_clear h hi hL e
      | 1, _, e => exact law_symbol h hi hL e
      | 2, _, e => exact law_feed h hi hL e
      | 3, _, e => exact law_rule h hi hL e
      | 4, _, e => exact law_problem h hi hL e
      | 5, _, e => exact law_solve h hi hL e
      | 6, _, e => exact law_solutions h hi hL e
      | 7, _, e => exact law_answer h hi hL e
      | 8, _, e => exact law_node h hi hL e
      | 9, _, e => exact law_waiting h hi hL e
      | 10, _, e => exact law_count h hi hL e
theorem sub4_lt : ∀ L, L < 4 → nI L - nI 4 < nI 0 := by decide +kernel
theorem law_end (h : RLz G x b L xs j) (hi : L < i + 4) (hi2 : i ≤ 2048) (hL : L ≤ 2048) : ae_wp 13 mL_law 18 (lwl b x i) [] G Q = Q (some (.int (nI 1))) G := by
  obtain ⟨f1, ⟨fs, f2⟩, f3⟩ := RLz_cls h
  have z1 : ∀ K, ae_zw G b K = K 99 (L, .inl xs) := fun K => zw_of f3
  unfold lwl
  by_cases c : 4 ≤ L
  · simp (disch := first | exact ae_isR_ref _ | exact ae_isR_null | exact ae_isR_rf _ | exact ae_cat_ref _ | exact ae_cat_int _ | exact ae_cat_null | exact ae_cat_rf _ | exact ae_nz0 | exact ae_nz1 | exact ae_fz0 | exact ae_fz1 | exact cI_na (by omega) | exact cI_ix (by omega) | exact cI_nn (by omega) | exact cI_nz (by omega) | exact cI_cp (by omega) | assumption | omega) only [s_L_law_18, s_L_law_19, s_L_law_20, s_L_law_21, s_L_law_22, s_L_law_23, s_L_law_427, s_L_law_428, og_0, og_1, og_2, og_3, og_4, og_5, og_6, og_7, og_8, og_9, og_10, og_11, og_12, op_6, op_8, op_9, op_10, op_11, op_12, dg_0, dg_1, dg_2, dg_3, dp_1, dp_2, dp_3, ng_b, ng_d, mz_m, ms_m, ov_2, nset_d, nset_b, uI_1, uI_2, uR_1, uR_21, uR_22, va_rf, Bool.false_eq_true, ae_Ki, ae_Kb, ae_Kj, ae_Ka, ae_Si, ae_Sb, ae_Sj, ae_Sn, List.getElem?_cons_succ, List.getElem?_cons_zero, ↓reduceIte, if_true, if_false, nI_ofNat, true_or, or_true, false_or, or_false, true_and, and_true, false_and, and_false, or_self, and_self, not_true_eq_false, not_false_eq_true, eq_self, List.length_cons, List.length_nil, Nat.reduceAdd, Nat.reduceLT, Nat.reduceSub, List.set_cons_succ, List.set_cons_zero, Option.toList, List.nil_append, List.cons_append, cI_ltT, cI_ltF, cI_leT, cI_leF, cI_eqT, cI_eqF, cI_cl, cN_leT, cN_leF, cN_ltT, cN_ltF, cN_eqT, cN_eqF, cI_add, cI_sub, cI_m1a, cI_m1b, cI_m1c, cI_m1d, cI_m1e, cI_m1f, z1]
  · have e : (nI L - nI 4 < nI i) = True := eq_true (by
      have h1 := sub4_lt L (by omega)
      have h2 : nI 0 ≤ nI i := Int32.le_iff_toInt_le.mpr (by rw [toInt_nI (by omega), toInt_nI (by omega)]; omega)
      exact Int32.lt_of_lt_of_le h1 h2)
    simp (disch := first | exact ae_isR_ref _ | exact ae_isR_null | exact ae_isR_rf _ | exact ae_cat_ref _ | exact ae_cat_int _ | exact ae_cat_null | exact ae_cat_rf _ | exact ae_nz0 | exact ae_nz1 | exact ae_fz0 | exact ae_fz1 | exact cI_na (by omega) | exact cI_ix (by omega) | exact cI_nn (by omega) | exact cI_nz (by omega) | exact cI_cp (by omega) | assumption | omega) only [s_L_law_18, s_L_law_19, s_L_law_20, s_L_law_21, s_L_law_22, s_L_law_23, s_L_law_427, s_L_law_428, e, og_0, og_1, og_2, og_3, og_4, og_5, og_6, og_7, og_8, og_9, og_10, og_11, og_12, op_6, op_8, op_9, op_10, op_11, op_12, dg_0, dg_1, dg_2, dg_3, dp_1, dp_2, dp_3, ng_b, ng_d, mz_m, ms_m, ov_2, nset_d, nset_b, uI_1, uI_2, uR_1, uR_21, uR_22, va_rf, Bool.false_eq_true, ae_Ki, ae_Kb, ae_Kj, ae_Ka, ae_Si, ae_Sb, ae_Sj, ae_Sn, List.getElem?_cons_succ, List.getElem?_cons_zero, ↓reduceIte, if_true, if_false, nI_ofNat, true_or, or_true, false_or, or_false, true_and, and_true, false_and, and_false, or_self, and_self, not_true_eq_false, not_false_eq_true, eq_self, List.length_cons, List.length_nil, Nat.reduceAdd, Nat.reduceLT, Nat.reduceSub, List.set_cons_succ, List.set_cons_zero, Option.toList, List.nil_append, List.cons_append, cI_ltT, cI_ltF, cI_leT, cI_leF, cI_eqT, cI_eqF, cI_cl, cN_leT, cN_leF, cN_ltT, cN_ltF, cN_eqT, cN_eqF, cI_add, cI_sub, cI_m1a, cI_m1b, cI_m1c, cI_m1d, cI_m1e, cI_m1f, z1]
theorem law_loop (hL : L ≤ 2048) (hQ : ∀ G2 j2, RLz G2 x b L xs j2 → j2 ≤ 512 → Q (some (.int (nI 1))) G2) : ∀ (n i j : Nat) (G : ah_H), L ≤ i + n → i = 4 * j → i ≤ 2048 → RLz G x b L xs j → ae_wp 13 mL_law 18 (lwl b x i) [] G Q := by
  intro n
  induction n with
  | zero =>
    intro i j G h1 h2 h3 h4
    rw [law_end h4 (by omega) h3 hL]
    exact hQ G j h4 (by omega)
  | succ n ih =>
    intro i j G h1 h2 h3 h4
    by_cases c : L < i + 4
    · rw [law_end h4 c h3 hL]
      exact hQ G j h4 (by omega)
    · obtain ⟨G2, t1, t2⟩ := law_turn (i := i) h4 (by omega) hL
      rw [t2 Q]
      exact ih (i + 4) (j + 1) G2 (by omega) (by omega) (by omega) t1
end LAW
