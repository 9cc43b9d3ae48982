/-! NarrowSolver: faultOfRule -/
section FLT
variable {d : Nat} {Q : Option Value → ah_H → Prop} {G : ah_H} {x : Nat} {A : Nat → Nat} {ns : Nat} {ar fn : Nat → Int32} {F : Nat → Bool} {tp : List Nat}
theorem m_X10_variableBit {v : Nat} (hv : v < 100 ∨ (100 ≤ v ∧ v < 110)) : ae_wm (d + 1) mX10_variableBit [.int (nI v)] G Q = Q (some (.int (if 100 ≤ v then bt (v - 100) else nI 0))) G := by
  have gV := fun Q => m_X10_isVariable (d := d) (Q := Q) (h := G) (v := v) (by omega)
  by_cases c : 100 ≤ v
  · rw [if_pos c] at gV
    simp (disch := first | exact ae_isR_ref _ | exact ae_isR_null | exact ae_isR_rf _ | exact ae_cat_ref _ | exact ae_cat_int _ | exact ae_cat_null | exact ae_cat_rf _ | exact ae_nz0 | exact ae_nz1 | exact ae_fz0 | exact ae_fz1 | exact cI_na (by omega) | exact cI_ix (by omega) | exact cI_nn (by omega) | exact cI_nz (by omega) | exact cI_cp (by omega) | assumption | omega) only [s_X10_variableBit_0, s_X10_variableBit_1, s_X10_variableBit_4, s_X10_variableBit_7, s_X10_variableBit_8, s_X10_variableBit_9, s_X10_variableBit_11, s_X10_variableBit_12, s_X10_variableBit_13, s_X10_variableBit_16, s_X10_variableBit_17, e_X10_variableBit, og_0, og_1, og_2, og_3, og_4, og_5, og_6, og_7, og_8, og_9, og_10, og_11, og_12, op_6, op_8, op_9, op_10, op_11, op_12, dg_0, dg_1, dg_2, dg_3, dp_1, dp_2, dp_3, ng_b, ng_d, mz_m, ms_m, ov_2, nset_d, nset_b, uI_1, uI_2, uR_1, uR_21, uR_22, va_rf, Bool.false_eq_true, ae_Ki, ae_Kb, ae_Kj, ae_Ka, ae_Si, ae_Sb, ae_Sj, ae_Sn, List.getElem?_cons_succ, List.getElem?_cons_zero, ↓reduceIte, if_true, if_false, nI_ofNat, true_or, or_true, false_or, or_false, true_and, and_true, false_and, and_false, or_self, and_self, not_true_eq_false, not_false_eq_true, eq_self, List.length_cons, List.length_nil, Nat.reduceAdd, Nat.reduceLT, Nat.reduceSub, List.set_cons_succ, List.set_cons_zero, Option.toList, List.nil_append, List.cons_append, cI_ltT, cI_ltF, cI_leT, cI_leF, cI_eqT, cI_eqF, cI_cl, cN_leT, cN_leF, cN_ltT, cN_ltF, cN_eqT, cN_eqF, cI_add, cI_sub, cI_m1a, cI_m1b, cI_m1c, cI_m1d, cI_m1e, cI_m1f, gV, bt]
  · rw [if_neg c] at gV
    simp (disch := first | exact ae_isR_ref _ | exact ae_isR_null | exact ae_isR_rf _ | exact ae_cat_ref _ | exact ae_cat_int _ | exact ae_cat_null | exact ae_cat_rf _ | exact ae_nz0 | exact ae_nz1 | exact ae_fz0 | exact ae_fz1 | exact cI_na (by omega) | exact cI_ix (by omega) | exact cI_nn (by omega) | exact cI_nz (by omega) | exact cI_cp (by omega) | assumption | omega) only [s_X10_variableBit_0, s_X10_variableBit_1, s_X10_variableBit_4, s_X10_variableBit_7, s_X10_variableBit_8, s_X10_variableBit_9, s_X10_variableBit_11, s_X10_variableBit_12, s_X10_variableBit_13, s_X10_variableBit_16, s_X10_variableBit_17, e_X10_variableBit, og_0, og_1, og_2, og_3, og_4, og_5, og_6, og_7, og_8, og_9, og_10, og_11, og_12, op_6, op_8, op_9, op_10, op_11, op_12, dg_0, dg_1, dg_2, dg_3, dp_1, dp_2, dp_3, ng_b, ng_d, mz_m, ms_m, ov_2, nset_d, nset_b, uI_1, uI_2, uR_1, uR_21, uR_22, va_rf, Bool.false_eq_true, ae_Ki, ae_Kb, ae_Kj, ae_Ka, ae_Si, ae_Sb, ae_Sj, ae_Sn, List.getElem?_cons_succ, List.getElem?_cons_zero, ↓reduceIte, if_true, if_false, nI_ofNat, true_or, or_true, false_or, or_false, true_and, and_true, false_and, and_false, or_self, and_self, not_true_eq_false, not_false_eq_true, eq_self, List.length_cons, List.length_nil, Nat.reduceAdd, Nat.reduceLT, Nat.reduceSub, List.set_cons_succ, List.set_cons_zero, Option.toList, List.nil_append, List.cons_append, cI_ltT, cI_ltF, cI_leT, cI_leF, cI_eqT, cI_eqF, cI_cl, cN_leT, cN_leF, cN_ltT, cN_ltF, cN_eqT, cN_eqF, cI_add, cI_sub, cI_m1a, cI_m1b, cI_m1c, cI_m1d, cI_m1e, cI_m1f, gV]
theorem m_X10_fv_tw (hf : fac G x) (ht : tpk G x tp) (hk : ∀ i, i < tp.length → knw ns (tp.getD i 0) = true) (hns : ns ≤ 24) {l : Nat} (hl : l ≤ tp.length) : ∀ (m i : Nat) (s : Int32) (l4 : Option Value), i + m = l → 1 ≤ i → sn tp s i → ∃ s2 x4, (exF (fun k => exF (fun j => decide (100 ≤ tp.getD k 0) && decide (tp.getD j 0 = tp.getD k 0)) (k - 1) 1) m i = true ∧ ∀ Q, ae_wp (d + 2) mX10_faultOfVariables 4 [some (.ref x), some (.int (nI l)), some (.int s), some (.int (nI i)), l4] [] G Q = Q (some (.int (-16))) G) ∨ (exF (fun k => exF (fun j => decide (100 ≤ tp.getD k 0) && decide (tp.getD j 0 = tp.getD k 0)) (k - 1) 1) m i = false ∧ sn tp s2 l ∧ ∀ Q, ae_wp (d + 2) mX10_faultOfVariables 4 [some (.ref x), some (.int (nI l)), some (.int s), some (.int (nI i)), l4] [] G Q = ae_wp (d + 2) mX10_faultOfVariables 43 [some (.ref x), some (.int (nI l)), some (.int s2), some (.int (nI l)), x4] [] G Q) := by
  have ht0 := ht
  obtain ⟨g, t1, t2, t3, t4⟩ := ht0
  have o1 : ∀ K, ae_gw G x 10 1 K = K (.ref (x + 4)) := fun K => by unfold ae_gw; rw [hf]; rfl
  intro m
  induction m with
  | zero =>
    intro i s l4 hi h1 hs
    have e : i = l := by omega
    subst e
    refine ⟨s, l4, Or.inr ⟨rfl, hs, fun Q => ?_⟩⟩
    simp (disch := first | exact ae_isR_ref _ | exact ae_isR_null | exact ae_isR_rf _ | exact ae_cat_ref _ | exact ae_cat_int _ | exact ae_cat_null | exact ae_cat_rf _ | exact ae_nz0 | exact ae_nz1 | exact ae_fz0 | exact ae_fz1 | exact cI_na (by omega) | exact cI_ix (by omega) | exact cI_nn (by omega) | exact cI_nz (by omega) | exact cI_cp (by omega) | assumption | omega) only [s_X10_faultOfVariables_4, s_X10_faultOfVariables_5, s_X10_faultOfVariables_6, og_0, og_1, og_2, og_3, og_4, og_5, og_6, og_7, og_8, og_9, og_10, og_11, og_12, op_6, op_8, op_9, op_10, op_11, op_12, dg_0, dg_1, dg_2, dg_3, dp_1, dp_2, dp_3, ng_b, ng_d, mz_m, ms_m, ov_2, nset_d, nset_b, uI_1, uI_2, uR_1, uR_21, uR_22, va_rf, Bool.false_eq_true, ae_Ki, ae_Kb, ae_Kj, ae_Ka, ae_Si, ae_Sb, ae_Sj, ae_Sn, List.getElem?_cons_succ, List.getElem?_cons_zero, ↓reduceIte, if_true, if_false, nI_ofNat, true_or, or_true, false_or, or_false, true_and, and_true, false_and, and_false, or_self, and_self, not_true_eq_false, not_false_eq_true, eq_self, List.length_cons, List.length_nil, Nat.reduceAdd, Nat.reduceLT, Nat.reduceSub, List.set_cons_succ, List.set_cons_zero, Option.toList, List.nil_append, List.cons_append, cI_ltT, cI_ltF, cI_leT, cI_leF, cI_eqT, cI_eqF, cI_cl, cN_leT, cN_leF, cN_ltT, cN_ltF, cN_eqT, cN_eqF, cI_add, cI_sub, cI_m1a, cI_m1b, cI_m1c, cI_m1d, cI_m1e, cI_m1f]
  | succ m ih =>
    intro i s l4 hi h1 hs
    have hil : i < tp.length := by omega
    have ga := fun Q => tp_at (d := d + 1) ht hil Q
    have hkk := of_decide_eq_true (hk i hil)
    have gb := fun Q => m_X10_variableBit (d := d) (Q := Q) (G := G) (v := tp.getD i 0) (by omega)
    rw [exF]
    by_cases c : 100 ≤ tp.getD i 0
    · rw [if_pos c] at gb
      have hj : tp.getD i 0 - 100 < 10 := by omega
      have hsj := fun (_ : Unit) => hs _ hj
      have ha := and_nz (s := s) hj
      by_cases c2 : hb s (tp.getD i 0 - 100) = true
      · have hex : exF (fun j => decide (100 ≤ tp.getD i 0) && decide (tp.getD j 0 = tp.getD i 0)) (i - 1) 1 = true := by
          obtain ⟨k, k1, k2, k3⟩ := (hsj ()).mp c2
          exact (exF_iff _ _ _).mpr ⟨k, k1, by omega, by rw [decide_eq_true c, decide_eq_true (by omega)]; rfl⟩
        refine ⟨s, none, Or.inl ⟨by rw [hex]; rfl, fun Q => ?_⟩⟩
        rw [c2] at ha
        have ha : (s &&& bt (tp.getD i 0 - 100) = nI 0) = False := by rw [ha]; simp
        simp (disch := first | exact ae_isR_ref _ | exact ae_isR_null | exact ae_isR_rf _ | exact ae_cat_ref _ | exact ae_cat_int _ | exact ae_cat_null | exact ae_cat_rf _ | exact ae_nz0 | exact ae_nz1 | exact ae_fz0 | exact ae_fz1 | exact cI_na (by omega) | exact cI_ix (by omega) | exact cI_nn (by omega) | exact cI_nz (by omega) | exact cI_cp (by omega) | assumption | omega) only [s_X10_faultOfVariables_4, s_X10_faultOfVariables_5, s_X10_faultOfVariables_6, s_X10_faultOfVariables_9, s_X10_faultOfVariables_10, s_X10_faultOfVariables_13, s_X10_faultOfVariables_14 t1.1, s_X10_faultOfVariables_17, s_X10_faultOfVariables_20, s_X10_faultOfVariables_22, s_X10_faultOfVariables_23, s_X10_faultOfVariables_25, s_X10_faultOfVariables_26, s_X10_faultOfVariables_29, s_X10_faultOfVariables_31, og_0, og_1, og_2, og_3, og_4, og_5, og_6, og_7, og_8, og_9, og_10, og_11, og_12, op_6, op_8, op_9, op_10, op_11, op_12, dg_0, dg_1, dg_2, dg_3, dp_1, dp_2, dp_3, ng_b, ng_d, mz_m, ms_m, ov_2, nset_d, nset_b, uI_1, uI_2, uR_1, uR_21, uR_22, va_rf, Bool.false_eq_true, ae_Ki, ae_Kb, ae_Kj, ae_Ka, ae_Si, ae_Sb, ae_Sj, ae_Sn, List.getElem?_cons_succ, List.getElem?_cons_zero, ↓reduceIte, if_true, if_false, nI_ofNat, true_or, or_true, false_or, or_false, true_and, and_true, false_and, and_false, or_self, and_self, not_true_eq_false, not_false_eq_true, eq_self, List.length_cons, List.length_nil, Nat.reduceAdd, Nat.reduceLT, Nat.reduceSub, List.set_cons_succ, List.set_cons_zero, Option.toList, List.nil_append, List.cons_append, cI_ltT, cI_ltF, cI_leT, cI_leF, cI_eqT, cI_eqF, cI_cl, cN_leT, cN_leF, cN_ltT, cN_ltF, cN_eqT, cN_eqF, cI_add, cI_sub, cI_m1a, cI_m1b, cI_m1c, cI_m1d, cI_m1e, cI_m1f, o1, ga, gb, ha]
      · have c2' : hb s (tp.getD i 0 - 100) = false := by simpa using c2
        have hex : exF (fun j => decide (100 ≤ tp.getD i 0) && decide (tp.getD j 0 = tp.getD i 0)) (i - 1) 1 = false := by
          cases e : exF (fun j => decide (100 ≤ tp.getD i 0) && decide (tp.getD j 0 = tp.getD i 0)) (i - 1) 1 with
          | false => rfl
          | true =>
            obtain ⟨k, k1, k2, k3⟩ := (exF_iff _ _ _).mp e
            simp only [Bool.and_eq_true, decide_eq_true_eq] at k3
            exact absurd ((hsj ()).mpr ⟨k, k1, by omega, by omega⟩) c2
        rw [hex, Bool.false_or]
        have hsn : sn tp (s ||| bt (tp.getD i 0 - 100)) (i + 1) := by
          intro j hj2
          rw [or_hb hj hj2, Bool.or_eq_true, decide_eq_true_eq, hs j hj2]
          constructor
          · rintro (⟨k, k1, k2, k3⟩ | z)
            · exact ⟨k, k1, by omega, k3⟩
            · exact ⟨i, h1, by omega, by omega⟩
          · rintro ⟨k, k1, k2, k3⟩
            by_cases e : k = i
            · subst e; exact Or.inr (by omega)
            · exact Or.inl ⟨k, k1, by omega, k3⟩
        obtain ⟨s2, x4, i1⟩ := ih (i + 1) (s ||| bt (tp.getD i 0 - 100)) (some (.int (bt (tp.getD i 0 - 100)))) (by omega) (by omega) hsn
        rw [c2'] at ha
        have ha : (s &&& bt (tp.getD i 0 - 100) = nI 0) = True := by rw [ha]; simp
        have hgo : ∀ Q, ae_wp (d + 2) mX10_faultOfVariables 4 [some (.ref x), some (.int (nI l)), some (.int s), some (.int (nI i)), l4] [] G Q = ae_wp (d + 2) mX10_faultOfVariables 4 [some (.ref x), some (.int (nI l)), some (.int (s ||| bt (tp.getD i 0 - 100))), some (.int (nI (i + 1))), some (.int (bt (tp.getD i 0 - 100)))] [] G Q := fun Q => by
          refine Eq.trans ?_ s_X10_faultOfVariables_40
          simp (disch := first | exact ae_isR_ref _ | exact ae_isR_null | exact ae_isR_rf _ | exact ae_cat_ref _ | exact ae_cat_int _ | exact ae_cat_null | exact ae_cat_rf _ | exact ae_nz0 | exact ae_nz1 | exact ae_fz0 | exact ae_fz1 | exact cI_na (by omega) | exact cI_ix (by omega) | exact cI_nn (by omega) | exact cI_nz (by omega) | exact cI_cp (by omega) | assumption | omega) only [s_X10_faultOfVariables_4, s_X10_faultOfVariables_5, s_X10_faultOfVariables_6, s_X10_faultOfVariables_9, s_X10_faultOfVariables_10, s_X10_faultOfVariables_13, s_X10_faultOfVariables_14 t1.1, s_X10_faultOfVariables_17, s_X10_faultOfVariables_20, s_X10_faultOfVariables_22, s_X10_faultOfVariables_23, s_X10_faultOfVariables_25, s_X10_faultOfVariables_26, s_X10_faultOfVariables_32, s_X10_faultOfVariables_33, s_X10_faultOfVariables_35, s_X10_faultOfVariables_36, s_X10_faultOfVariables_37, og_0, og_1, og_2, og_3, og_4, og_5, og_6, og_7, og_8, og_9, og_10, og_11, og_12, op_6, op_8, op_9, op_10, op_11, op_12, dg_0, dg_1, dg_2, dg_3, dp_1, dp_2, dp_3, ng_b, ng_d, mz_m, ms_m, ov_2, nset_d, nset_b, uI_1, uI_2, uR_1, uR_21, uR_22, va_rf, Bool.false_eq_true, ae_Ki, ae_Kb, ae_Kj, ae_Ka, ae_Si, ae_Sb, ae_Sj, ae_Sn, List.getElem?_cons_succ, List.getElem?_cons_zero, ↓reduceIte, if_true, if_false, nI_ofNat, true_or, or_true, false_or, or_false, true_and, and_true, false_and, and_false, or_self, and_self, not_true_eq_false, not_false_eq_true, eq_self, List.length_cons, List.length_nil, Nat.reduceAdd, Nat.reduceLT, Nat.reduceSub, List.set_cons_succ, List.set_cons_zero, Option.toList, List.nil_append, List.cons_append, cI_ltT, cI_ltF, cI_leT, cI_leF, cI_eqT, cI_eqF, cI_cl, cN_leT, cN_leF, cN_ltT, cN_ltF, cN_eqT, cN_eqF, cI_add, cI_sub, cI_m1a, cI_m1b, cI_m1c, cI_m1d, cI_m1e, cI_m1f, o1, ga, gb, ha]
        refine ⟨s2, x4, ?_⟩
        rcases i1 with ⟨z1, z2⟩ | ⟨z1, z2, z3⟩
        · exact Or.inl ⟨z1, fun Q => (hgo Q).trans (z2 Q)⟩
        · exact Or.inr ⟨z1, z2, fun Q => (hgo Q).trans (z3 Q)⟩
    · rw [if_neg c] at gb
      have hex : exF (fun j => decide (100 ≤ tp.getD i 0) && decide (tp.getD j 0 = tp.getD i 0)) (i - 1) 1 = false := by
        cases e : exF (fun j => decide (100 ≤ tp.getD i 0) && decide (tp.getD j 0 = tp.getD i 0)) (i - 1) 1 with
        | false => rfl
        | true =>
          obtain ⟨k, k1, k2, k3⟩ := (exF_iff _ _ _).mp e
          simp only [Bool.and_eq_true, decide_eq_true_eq] at k3
          exact absurd k3.1 c
      rw [hex, Bool.false_or]
      have hsn : sn tp s (i + 1) := by
        intro j hj2
        rw [hs j hj2]
        constructor
        · rintro ⟨k, k1, k2, k3⟩
          exact ⟨k, k1, by omega, k3⟩
        · rintro ⟨k, k1, k2, k3⟩
          by_cases e : k = i
          · subst e; omega
          · exact ⟨k, k1, by omega, k3⟩
      obtain ⟨s2, x4, i1⟩ := ih (i + 1) s (some (.int (nI 0))) (by omega) (by omega) hsn
      have hgo : ∀ Q, ae_wp (d + 2) mX10_faultOfVariables 4 [some (.ref x), some (.int (nI l)), some (.int s), some (.int (nI i)), l4] [] G Q = ae_wp (d + 2) mX10_faultOfVariables 4 [some (.ref x), some (.int (nI l)), some (.int s), some (.int (nI (i + 1))), some (.int (nI 0))] [] G Q := fun Q => by
        refine Eq.trans ?_ s_X10_faultOfVariables_40
        simp (disch := first | exact ae_isR_ref _ | exact ae_isR_null | exact ae_isR_rf _ | exact ae_cat_ref _ | exact ae_cat_int _ | exact ae_cat_null | exact ae_cat_rf _ | exact ae_nz0 | exact ae_nz1 | exact ae_fz0 | exact ae_fz1 | exact cI_na (by omega) | exact cI_ix (by omega) | exact cI_nn (by omega) | exact cI_nz (by omega) | exact cI_cp (by omega) | assumption | omega) only [s_X10_faultOfVariables_4, s_X10_faultOfVariables_5, s_X10_faultOfVariables_6, s_X10_faultOfVariables_9, s_X10_faultOfVariables_10, s_X10_faultOfVariables_13, s_X10_faultOfVariables_14 t1.1, s_X10_faultOfVariables_17, s_X10_faultOfVariables_20, s_X10_faultOfVariables_22, s_X10_faultOfVariables_23, s_X10_faultOfVariables_25, s_X10_faultOfVariables_26, s_X10_faultOfVariables_32, s_X10_faultOfVariables_33, s_X10_faultOfVariables_35, s_X10_faultOfVariables_36, s_X10_faultOfVariables_37, og_0, og_1, og_2, og_3, og_4, og_5, og_6, og_7, og_8, og_9, og_10, og_11, og_12, op_6, op_8, op_9, op_10, op_11, op_12, dg_0, dg_1, dg_2, dg_3, dp_1, dp_2, dp_3, ng_b, ng_d, mz_m, ms_m, ov_2, nset_d, nset_b, uI_1, uI_2, uR_1, uR_21, uR_22, va_rf, Bool.false_eq_true, ae_Ki, ae_Kb, ae_Kj, ae_Ka, ae_Si, ae_Sb, ae_Sj, ae_Sn, List.getElem?_cons_succ, List.getElem?_cons_zero, ↓reduceIte, if_true, if_false, nI_ofNat, true_or, or_true, false_or, or_false, true_and, and_true, false_and, and_false, or_self, and_self, not_true_eq_false, not_false_eq_true, eq_self, List.length_cons, List.length_nil, Nat.reduceAdd, Nat.reduceLT, Nat.reduceSub, List.set_cons_succ, List.set_cons_zero, Option.toList, List.nil_append, List.cons_append, cI_ltT, cI_ltF, cI_leT, cI_leF, cI_eqT, cI_eqF, cI_cl, cN_leT, cN_leF, cN_ltT, cN_ltF, cN_eqT, cN_eqF, cI_add, cI_sub, cI_m1a, cI_m1b, cI_m1c, cI_m1d, cI_m1e, cI_m1f, o1, ga, gb, i32_a0, i32_o0]
      refine ⟨s2, x4, ?_⟩
      rcases i1 with ⟨z1, z2⟩ | ⟨z1, z2, z3⟩
      · exact Or.inl ⟨z1, fun Q => (hgo Q).trans (z2 Q)⟩
      · exact Or.inr ⟨z1, z2, fun Q => (hgo Q).trans (z3 Q)⟩
theorem m_X10_fv_fr (hf : fac G x) (ht : tpk G x tp) (hk : ∀ i, i < tp.length → knw ns (tp.getD i 0) = true) (hns : ns ≤ 24) {l : Nat} (hl : l ≤ tp.length) (hl1 : 1 ≤ l) {s : Int32} (hs : sn tp s l) {l4 : Option Value} : ∀ (m i : Nat), i + m = tp.length → ae_wp (d + 2) mX10_faultOfVariables 45 [some (.ref x), some (.int (nI l)), some (.int s), some (.int (nI i)), l4] [] G Q = Q (some (.int (if exF (fun k => !(decide (tp.getD k 0 < 100) || exF (fun j => decide (tp.getD j 0 = tp.getD k 0)) (l - 1) 1)) m i = true then -17 else nI 0))) G := by
  have ht0 := ht
  obtain ⟨g, t1, t2, t3, t4⟩ := ht0
  have o1 : ∀ K, ae_gw G x 10 1 K = K (.ref (x + 4)) := fun K => by unfold ae_gw; rw [hf]; rfl
  have oz := tp_gw ht
  intro m
  induction m with
  | zero =>
    intro i hi
    rw [exF, if_neg (by decide)]
    simp (disch := first | exact ae_isR_ref _ | exact ae_isR_null | exact ae_isR_rf _ | exact ae_cat_ref _ | exact ae_cat_int _ | exact ae_cat_null | exact ae_cat_rf _ | exact ae_nz0 | exact ae_nz1 | exact ae_fz0 | exact ae_fz1 | exact cI_na (by omega) | exact cI_ix (by omega) | exact cI_nn (by omega) | exact cI_nz (by omega) | exact cI_cp (by omega) | assumption | omega) only [s_X10_faultOfVariables_45, s_X10_faultOfVariables_46, s_X10_faultOfVariables_47, s_X10_faultOfVariables_50, s_X10_faultOfVariables_53, s_X10_faultOfVariables_83, s_X10_faultOfVariables_84, og_0, og_1, og_2, og_3, og_4, og_5, og_6, og_7, og_8, og_9, og_10, og_11, og_12, op_6, op_8, op_9, op_10, op_11, op_12, dg_0, dg_1, dg_2, dg_3, dp_1, dp_2, dp_3, ng_b, ng_d, mz_m, ms_m, ov_2, nset_d, nset_b, uI_1, uI_2, uR_1, uR_21, uR_22, va_rf, Bool.false_eq_true, ae_Ki, ae_Kb, ae_Kj, ae_Ka, ae_Si, ae_Sb, ae_Sj, ae_Sn, List.getElem?_cons_succ, List.getElem?_cons_zero, ↓reduceIte, if_true, if_false, nI_ofNat, true_or, or_true, false_or, or_false, true_and, and_true, false_and, and_false, or_self, and_self, not_true_eq_false, not_false_eq_true, eq_self, List.length_cons, List.length_nil, Nat.reduceAdd, Nat.reduceLT, Nat.reduceSub, List.set_cons_succ, List.set_cons_zero, Option.toList, List.nil_append, List.cons_append, cI_ltT, cI_ltF, cI_leT, cI_leF, cI_eqT, cI_eqF, cI_cl, cN_leT, cN_leF, cN_ltT, cN_ltF, cN_eqT, cN_eqF, cI_add, cI_sub, cI_m1a, cI_m1b, cI_m1c, cI_m1d, cI_m1e, cI_m1f, o1, oz]
  | succ m ih =>
    intro i hi
    have hil : i < tp.length := by omega
    have ga := fun Q => tp_at (d := d + 1) ht hil Q
    have hkk := of_decide_eq_true (hk i hil)
    have gb := fun Q => m_X10_variableBit (d := d) (Q := Q) (G := G) (v := tp.getD i 0) (by omega)
    rw [exF]
    by_cases c : 100 ≤ tp.getD i 0
    · rw [if_pos c] at gb
      have hj : tp.getD i 0 - 100 < 10 := by omega
      have hsj := fun (_ : Unit) => hs _ hj
      have ha := not_nz (s := s) hj
      have hd1 : decide (tp.getD i 0 < 100) = false := decide_eq_false (by omega)
      by_cases c2 : hb s (tp.getD i 0 - 100) = true
      · have hex : exF (fun j => decide (tp.getD j 0 = tp.getD i 0)) (l - 1) 1 = true := by
          obtain ⟨k, k1, k2, k3⟩ := (hsj ()).mp c2
          exact (exF_iff _ _ _).mpr ⟨k, k1, by omega, decide_eq_true (by omega)⟩
        have e0 : (!(decide (tp.getD i 0 < 100) || exF (fun j => decide (tp.getD j 0 = tp.getD i 0)) (l - 1) 1)) = false := by rw [hex, hd1]; rfl
        rw [e0, Bool.false_or]
        have ha : (bt (tp.getD i 0 - 100) &&& (s ^^^ (-1)) = nI 0) = True := by rw [ha, c2]; simp
        refine Eq.trans ?_ (s_X10_faultOfVariables_80.trans (ih (i + 1) (by omega)))
        simp (disch := first | exact ae_isR_ref _ | exact ae_isR_null | exact ae_isR_rf _ | exact ae_cat_ref _ | exact ae_cat_int _ | exact ae_cat_null | exact ae_cat_rf _ | exact ae_nz0 | exact ae_nz1 | exact ae_fz0 | exact ae_fz1 | exact cI_na (by omega) | exact cI_ix (by omega) | exact cI_nn (by omega) | exact cI_nz (by omega) | exact cI_cp (by omega) | assumption | omega) only [s_X10_faultOfVariables_45, s_X10_faultOfVariables_46, s_X10_faultOfVariables_47, s_X10_faultOfVariables_50, s_X10_faultOfVariables_53, s_X10_faultOfVariables_56, s_X10_faultOfVariables_57, s_X10_faultOfVariables_60, s_X10_faultOfVariables_61 t1.1, s_X10_faultOfVariables_64, s_X10_faultOfVariables_67, s_X10_faultOfVariables_68, s_X10_faultOfVariables_69, s_X10_faultOfVariables_70, s_X10_faultOfVariables_71, s_X10_faultOfVariables_77, og_0, og_1, og_2, og_3, og_4, og_5, og_6, og_7, og_8, og_9, og_10, og_11, og_12, op_6, op_8, op_9, op_10, op_11, op_12, dg_0, dg_1, dg_2, dg_3, dp_1, dp_2, dp_3, ng_b, ng_d, mz_m, ms_m, ov_2, nset_d, nset_b, uI_1, uI_2, uR_1, uR_21, uR_22, va_rf, Bool.false_eq_true, ae_Ki, ae_Kb, ae_Kj, ae_Ka, ae_Si, ae_Sb, ae_Sj, ae_Sn, List.getElem?_cons_succ, List.getElem?_cons_zero, ↓reduceIte, if_true, if_false, nI_ofNat, true_or, or_true, false_or, or_false, true_and, and_true, false_and, and_false, or_self, and_self, not_true_eq_false, not_false_eq_true, eq_self, List.length_cons, List.length_nil, Nat.reduceAdd, Nat.reduceLT, Nat.reduceSub, List.set_cons_succ, List.set_cons_zero, Option.toList, List.nil_append, List.cons_append, cI_ltT, cI_ltF, cI_leT, cI_leF, cI_eqT, cI_eqF, cI_cl, cN_leT, cN_leF, cN_ltT, cN_ltF, cN_eqT, cN_eqF, cI_add, cI_sub, cI_m1a, cI_m1b, cI_m1c, cI_m1d, cI_m1e, cI_m1f, o1, oz, ga, gb, ha]
      · have c2' : hb s (tp.getD i 0 - 100) = false := by simpa using c2
        have hex : exF (fun j => decide (tp.getD j 0 = tp.getD i 0)) (l - 1) 1 = false := by
          cases e : exF (fun j => decide (tp.getD j 0 = tp.getD i 0)) (l - 1) 1 with
          | false => rfl
          | true =>
            obtain ⟨k, k1, k2, k3⟩ := (exF_iff _ _ _).mp e
            simp only [decide_eq_true_eq] at k3
            exact absurd ((hsj ()).mpr ⟨k, k1, by omega, by omega⟩) c2
        have e0 : (!(decide (tp.getD i 0 < 100) || exF (fun j => decide (tp.getD j 0 = tp.getD i 0)) (l - 1) 1)) = true := by rw [hex, hd1]; rfl
        rw [e0, Bool.true_or, if_pos rfl]
        have ha : (bt (tp.getD i 0 - 100) &&& (s ^^^ (-1)) = nI 0) = False := by rw [ha, c2']; simp
        simp (disch := first | exact ae_isR_ref _ | exact ae_isR_null | exact ae_isR_rf _ | exact ae_cat_ref _ | exact ae_cat_int _ | exact ae_cat_null | exact ae_cat_rf _ | exact ae_nz0 | exact ae_nz1 | exact ae_fz0 | exact ae_fz1 | exact cI_na (by omega) | exact cI_ix (by omega) | exact cI_nn (by omega) | exact cI_nz (by omega) | exact cI_cp (by omega) | assumption | omega) only [s_X10_faultOfVariables_45, s_X10_faultOfVariables_46, s_X10_faultOfVariables_47, s_X10_faultOfVariables_50, s_X10_faultOfVariables_53, s_X10_faultOfVariables_56, s_X10_faultOfVariables_57, s_X10_faultOfVariables_60, s_X10_faultOfVariables_61 t1.1, s_X10_faultOfVariables_64, s_X10_faultOfVariables_67, s_X10_faultOfVariables_68, s_X10_faultOfVariables_69, s_X10_faultOfVariables_70, s_X10_faultOfVariables_71, s_X10_faultOfVariables_74, s_X10_faultOfVariables_76, og_0, og_1, og_2, og_3, og_4, og_5, og_6, og_7, og_8, og_9, og_10, og_11, og_12, op_6, op_8, op_9, op_10, op_11, op_12, dg_0, dg_1, dg_2, dg_3, dp_1, dp_2, dp_3, ng_b, ng_d, mz_m, ms_m, ov_2, nset_d, nset_b, uI_1, uI_2, uR_1, uR_21, uR_22, va_rf, Bool.false_eq_true, ae_Ki, ae_Kb, ae_Kj, ae_Ka, ae_Si, ae_Sb, ae_Sj, ae_Sn, List.getElem?_cons_succ, List.getElem?_cons_zero, ↓reduceIte, if_true, if_false, nI_ofNat, true_or, or_true, false_or, or_false, true_and, and_true, false_and, and_false, or_self, and_self, not_true_eq_false, not_false_eq_true, eq_self, List.length_cons, List.length_nil, Nat.reduceAdd, Nat.reduceLT, Nat.reduceSub, List.set_cons_succ, List.set_cons_zero, Option.toList, List.nil_append, List.cons_append, cI_ltT, cI_ltF, cI_leT, cI_leF, cI_eqT, cI_eqF, cI_cl, cN_leT, cN_leF, cN_ltT, cN_ltF, cN_eqT, cN_eqF, cI_add, cI_sub, cI_m1a, cI_m1b, cI_m1c, cI_m1d, cI_m1e, cI_m1f, o1, oz, ga, gb, ha]
    · rw [if_neg c] at gb
      have hd1 : decide (tp.getD i 0 < 100) = true := decide_eq_true (by omega)
      have e0 : (!(decide (tp.getD i 0 < 100) || exF (fun j => decide (tp.getD j 0 = tp.getD i 0)) (l - 1) 1)) = false := by rw [hd1]; rfl
      rw [e0, Bool.false_or]
      refine Eq.trans ?_ (s_X10_faultOfVariables_80.trans (ih (i + 1) (by omega)))
      simp (disch := first | exact ae_isR_ref _ | exact ae_isR_null | exact ae_isR_rf _ | exact ae_cat_ref _ | exact ae_cat_int _ | exact ae_cat_null | exact ae_cat_rf _ | exact ae_nz0 | exact ae_nz1 | exact ae_fz0 | exact ae_fz1 | exact cI_na (by omega) | exact cI_ix (by omega) | exact cI_nn (by omega) | exact cI_nz (by omega) | exact cI_cp (by omega) | assumption | omega) only [s_X10_faultOfVariables_45, s_X10_faultOfVariables_46, s_X10_faultOfVariables_47, s_X10_faultOfVariables_50, s_X10_faultOfVariables_53, s_X10_faultOfVariables_56, s_X10_faultOfVariables_57, s_X10_faultOfVariables_60, s_X10_faultOfVariables_61 t1.1, s_X10_faultOfVariables_64, s_X10_faultOfVariables_67, s_X10_faultOfVariables_68, s_X10_faultOfVariables_69, s_X10_faultOfVariables_70, s_X10_faultOfVariables_71, s_X10_faultOfVariables_77, og_0, og_1, og_2, og_3, og_4, og_5, og_6, og_7, og_8, og_9, og_10, og_11, og_12, op_6, op_8, op_9, op_10, op_11, op_12, dg_0, dg_1, dg_2, dg_3, dp_1, dp_2, dp_3, ng_b, ng_d, mz_m, ms_m, ov_2, nset_d, nset_b, uI_1, uI_2, uR_1, uR_21, uR_22, va_rf, Bool.false_eq_true, ae_Ki, ae_Kb, ae_Kj, ae_Ka, ae_Si, ae_Sb, ae_Sj, ae_Sn, List.getElem?_cons_succ, List.getElem?_cons_zero, ↓reduceIte, if_true, if_false, nI_ofNat, true_or, or_true, false_or, or_false, true_and, and_true, false_and, and_false, or_self, and_self, not_true_eq_false, not_false_eq_true, eq_self, List.length_cons, List.length_nil, Nat.reduceAdd, Nat.reduceLT, Nat.reduceSub, List.set_cons_succ, List.set_cons_zero, Option.toList, List.nil_append, List.cons_append, cI_ltT, cI_ltF, cI_leT, cI_leF, cI_eqT, cI_eqF, cI_cl, cN_leT, cN_leF, cN_ltT, cN_ltF, cN_eqT, cN_eqF, cI_add, cI_sub, cI_m1a, cI_m1b, cI_m1c, cI_m1d, cI_m1e, cI_m1f, o1, oz, ga, gb, i32_0a]
theorem m_X10_faultOfVariables (hf : fac G x) (ht : tpk G x tp) (hk : ∀ i, i < tp.length → knw ns (tp.getD i 0) = true) (hns : ns ≤ 24) {l : Nat} (hl : l ≤ tp.length) (hl1 : 1 ≤ l) : ae_wm (d + 2) mX10_faultOfVariables [.ref x, .int (nI l)] G Q = Q (some (.int (if ttw tp l = true then -16 else if tfr tp l = true then -17 else nI 0))) G := by
  obtain ⟨s2, x4, i1⟩ := m_X10_fv_tw (d := d) hf ht hk hns hl (l - 1) 1 (nI 0) none (by omega) (by omega) (fun j hj => by
    rw [hb_0]
    constructor
    · intro z; cases z
    · rintro ⟨k, k1, k2, _⟩; omega)
  have hpre : ae_wm (d + 2) mX10_faultOfVariables [.ref x, .int (nI l)] G Q = ae_wp (d + 2) mX10_faultOfVariables 4 [some (.ref x), some (.int (nI l)), some (.int (nI 0)), some (.int (nI 1)), none] [] G Q := by
    simp (disch := first | exact ae_isR_ref _ | exact ae_isR_null | exact ae_isR_rf _ | exact ae_cat_ref _ | exact ae_cat_int _ | exact ae_cat_null | exact ae_cat_rf _ | exact ae_nz0 | exact ae_nz1 | exact ae_fz0 | exact ae_fz1 | exact cI_na (by omega) | exact cI_ix (by omega) | exact cI_nn (by omega) | exact cI_nz (by omega) | exact cI_cp (by omega) | assumption | omega) only [s_X10_faultOfVariables_0, s_X10_faultOfVariables_1, s_X10_faultOfVariables_2, s_X10_faultOfVariables_3, e_X10_faultOfVariables, og_0, og_1, og_2, og_3, og_4, og_5, og_6, og_7, og_8, og_9, og_10, og_11, og_12, op_6, op_8, op_9, op_10, op_11, op_12, dg_0, dg_1, dg_2, dg_3, dp_1, dp_2, dp_3, ng_b, ng_d, mz_m, ms_m, ov_2, nset_d, nset_b, uI_1, uI_2, uR_1, uR_21, uR_22, va_rf, Bool.false_eq_true, ae_Ki, ae_Kb, ae_Kj, ae_Ka, ae_Si, ae_Sb, ae_Sj, ae_Sn, List.getElem?_cons_succ, List.getElem?_cons_zero, ↓reduceIte, if_true, if_false, nI_ofNat, true_or, or_true, false_or, or_false, true_and, and_true, false_and, and_false, or_self, and_self, not_true_eq_false, not_false_eq_true, eq_self, List.length_cons, List.length_nil, Nat.reduceAdd, Nat.reduceLT, Nat.reduceSub, List.set_cons_succ, List.set_cons_zero, Option.toList, List.nil_append, List.cons_append, cI_ltT, cI_ltF, cI_leT, cI_leF, cI_eqT, cI_eqF, cI_cl, cN_leT, cN_leF, cN_ltT, cN_ltF, cN_eqT, cN_eqF, cI_add, cI_sub, cI_m1a, cI_m1b, cI_m1c, cI_m1d, cI_m1e, cI_m1f]
  rw [hpre]
  rcases i1 with ⟨z1, z2⟩ | ⟨z1, z2, z3⟩
  · rw [if_pos (show ttw tp l = true from z1)]
    exact z2 Q
  · rw [if_neg (show ¬ ttw tp l = true by rw [show ttw tp l = false from z1]; decide), z3 Q, s_X10_faultOfVariables_43, s_X10_faultOfVariables_44]
    exact m_X10_fv_fr hf ht hk hns hl hl1 z2 (tp.length - l) l (by omega)
theorem m_X10_fr_deep (hf : fac G x) (hs : sym G (x + 1) ns ar fn) (hns : ns ≤ 24) (hF : fnl F ns fn) (ht : tpk G x tp) {l : Nat} (hl : l ≤ tp.length) {l2 : Option Value} : ∀ (m k : Nat), k + m = l → ae_wp (d + 1) mX10_faultOfRule 49 [some (.ref x), some (.int (nI l)), l2, some (.int (nI k))] [] G Q = if exF (fun k => F (tp.getD k 0)) m k = true then Q (some (.int (-15))) G else ae_wp (d + 1) mX10_faultOfRule 81 [some (.ref x), some (.int (nI l)), l2, some (.int (nI l))] [] G Q := by
  have ht0 := ht
  obtain ⟨g, t1, t2, t3, t4⟩ := ht0
  have o1 : ∀ K, ae_gw G x 10 1 K = K (.ref (x + 4)) := fun K => by unfold ae_gw; rw [hf]; rfl
  have o0 : ∀ K, ae_gw G x 10 0 K = K (.ref (x + 1)) := fun K => by unfold ae_gw; rw [hf]; rfl
  intro m
  induction m with
  | zero =>
    intro k hk
    have e : k = l := by omega
    subst e
    rw [exF, if_neg (by decide)]
    simp (disch := first | exact ae_isR_ref _ | exact ae_isR_null | exact ae_isR_rf _ | exact ae_cat_ref _ | exact ae_cat_int _ | exact ae_cat_null | exact ae_cat_rf _ | exact ae_nz0 | exact ae_nz1 | exact ae_fz0 | exact ae_fz1 | exact cI_na (by omega) | exact cI_ix (by omega) | exact cI_nn (by omega) | exact cI_nz (by omega) | exact cI_cp (by omega) | assumption | omega) only [s_X10_faultOfRule_49, s_X10_faultOfRule_50, s_X10_faultOfRule_51, og_0, og_1, og_2, og_3, og_4, og_5, og_6, og_7, og_8, og_9, og_10, og_11, og_12, op_6, op_8, op_9, op_10, op_11, op_12, dg_0, dg_1, dg_2, dg_3, dp_1, dp_2, dp_3, ng_b, ng_d, mz_m, ms_m, ov_2, nset_d, nset_b, uI_1, uI_2, uR_1, uR_21, uR_22, va_rf, Bool.false_eq_true, ae_Ki, ae_Kb, ae_Kj, ae_Ka, ae_Si, ae_Sb, ae_Sj, ae_Sn, List.getElem?_cons_succ, List.getElem?_cons_zero, ↓reduceIte, if_true, if_false, nI_ofNat, true_or, or_true, false_or, or_false, true_and, and_true, false_and, and_false, or_self, and_self, not_true_eq_false, not_false_eq_true, eq_self, List.length_cons, List.length_nil, Nat.reduceAdd, Nat.reduceLT, Nat.reduceSub, List.set_cons_succ, List.set_cons_zero, Option.toList, List.nil_append, List.cons_append, cI_ltT, cI_ltF, cI_leT, cI_leF, cI_eqT, cI_eqF, cI_cl, cN_leT, cN_leF, cN_ltT, cN_ltF, cN_eqT, cN_eqF, cI_add, cI_sub, cI_m1a, cI_m1b, cI_m1c, cI_m1d, cI_m1e, cI_m1f]
  | succ m ih =>
    intro k hk
    have hkl : k < tp.length := by omega
    have ga := fun Q => tp_at (d := d) ht hkl Q
    have h4 := t4 k hkl
    have gF := fun Q => m_X7_isFunction (d := d) (Q := Q) (v := tp.getD k 0) hs hns (by omega) hF
    rw [exF]
    by_cases c : F (tp.getD k 0) = true
    · rw [if_pos c] at gF
      rw [c, Bool.true_or, if_pos rfl]
      simp (disch := first | exact ae_isR_ref _ | exact ae_isR_null | exact ae_isR_rf _ | exact ae_cat_ref _ | exact ae_cat_int _ | exact ae_cat_null | exact ae_cat_rf _ | exact ae_nz0 | exact ae_nz1 | exact ae_fz0 | exact ae_fz1 | exact cI_na (by omega) | exact cI_ix (by omega) | exact cI_nn (by omega) | exact cI_nz (by omega) | exact cI_cp (by omega) | assumption | omega) only [s_X10_faultOfRule_49, s_X10_faultOfRule_50, s_X10_faultOfRule_51, s_X10_faultOfRule_54, s_X10_faultOfRule_55, s_X10_faultOfRule_58, s_X10_faultOfRule_59, s_X10_faultOfRule_62, s_X10_faultOfRule_63 t1.1, s_X10_faultOfRule_66 hs.1, s_X10_faultOfRule_69, s_X10_faultOfRule_72, s_X10_faultOfRule_74, og_0, og_1, og_2, og_3, og_4, og_5, og_6, og_7, og_8, og_9, og_10, og_11, og_12, op_6, op_8, op_9, op_10, op_11, op_12, dg_0, dg_1, dg_2, dg_3, dp_1, dp_2, dp_3, ng_b, ng_d, mz_m, ms_m, ov_2, nset_d, nset_b, uI_1, uI_2, uR_1, uR_21, uR_22, va_rf, Bool.false_eq_true, ae_Ki, ae_Kb, ae_Kj, ae_Ka, ae_Si, ae_Sb, ae_Sj, ae_Sn, List.getElem?_cons_succ, List.getElem?_cons_zero, ↓reduceIte, if_true, if_false, nI_ofNat, true_or, or_true, false_or, or_false, true_and, and_true, false_and, and_false, or_self, and_self, not_true_eq_false, not_false_eq_true, eq_self, List.length_cons, List.length_nil, Nat.reduceAdd, Nat.reduceLT, Nat.reduceSub, List.set_cons_succ, List.set_cons_zero, Option.toList, List.nil_append, List.cons_append, cI_ltT, cI_ltF, cI_leT, cI_leF, cI_eqT, cI_eqF, cI_cl, cN_leT, cN_leF, cN_ltT, cN_ltF, cN_eqT, cN_eqF, cI_add, cI_sub, cI_m1a, cI_m1b, cI_m1c, cI_m1d, cI_m1e, cI_m1f, o1, o0, ga, gF]
    · rw [if_neg c] at gF
      have c' : F (tp.getD k 0) = false := by simpa using c
      rw [c', Bool.false_or]
      refine Eq.trans ?_ (s_X10_faultOfRule_78.trans (ih (k + 1) (by omega)))
      simp (disch := first | exact ae_isR_ref _ | exact ae_isR_null | exact ae_isR_rf _ | exact ae_cat_ref _ | exact ae_cat_int _ | exact ae_cat_null | exact ae_cat_rf _ | exact ae_nz0 | exact ae_nz1 | exact ae_fz0 | exact ae_fz1 | exact cI_na (by omega) | exact cI_ix (by omega) | exact cI_nn (by omega) | exact cI_nz (by omega) | exact cI_cp (by omega) | assumption | omega) only [s_X10_faultOfRule_49, s_X10_faultOfRule_50, s_X10_faultOfRule_51, s_X10_faultOfRule_54, s_X10_faultOfRule_55, s_X10_faultOfRule_58, s_X10_faultOfRule_59, s_X10_faultOfRule_62, s_X10_faultOfRule_63 t1.1, s_X10_faultOfRule_66 hs.1, s_X10_faultOfRule_69, s_X10_faultOfRule_75, og_0, og_1, og_2, og_3, og_4, og_5, og_6, og_7, og_8, og_9, og_10, og_11, og_12, op_6, op_8, op_9, op_10, op_11, op_12, dg_0, dg_1, dg_2, dg_3, dp_1, dp_2, dp_3, ng_b, ng_d, mz_m, ms_m, ov_2, nset_d, nset_b, uI_1, uI_2, uR_1, uR_21, uR_22, va_rf, Bool.false_eq_true, ae_Ki, ae_Kb, ae_Kj, ae_Ka, ae_Si, ae_Sb, ae_Sj, ae_Sn, List.getElem?_cons_succ, List.getElem?_cons_zero, ↓reduceIte, if_true, if_false, nI_ofNat, true_or, or_true, false_or, or_false, true_and, and_true, false_and, and_false, or_self, and_self, not_true_eq_false, not_false_eq_true, eq_self, List.length_cons, List.length_nil, Nat.reduceAdd, Nat.reduceLT, Nat.reduceSub, List.set_cons_succ, List.set_cons_zero, Option.toList, List.nil_append, List.cons_append, cI_ltT, cI_ltF, cI_leT, cI_leF, cI_eqT, cI_eqF, cI_cl, cN_leT, cN_leF, cN_ltT, cN_ltF, cN_eqT, cN_eqF, cI_add, cI_sub, cI_m1a, cI_m1b, cI_m1c, cI_m1d, cI_m1e, cI_m1f, o1, o0, ga, gF]
/-- what is wrong with the tape as a rule whose right side begins at l -/
theorem m_X10_faultOfRule (hf : fac G x) (hs : sym G (x + 1) ns ar fn) (hA : arl A ns ar) (hF : fnl F ns fn) (ht : tpk G x tp) {l : Nat} (h0 : rdt A ns tp 0 = .inr l) : ae_wm (d + 3) mX10_faultOfRule [.ref x, .int (nI l)] G Q = Q (some (.int (match rdt A ns tp l with
    | .inl v => v
    | .inr e => if e < tp.length then -13 else fot F tp l 0))) G := by
  have ht0 := ht
  obtain ⟨g, t1, t2, t3, t4⟩ := ht0
  have hns := hA.1
  have o1 : ∀ K, ae_gw G x 10 1 K = K (.ref (x + 4)) := fun K => by unfold ae_gw; rw [hf]; rfl
  have o0 : ∀ K, ae_gw G x 10 0 K = K (.ref (x + 1)) := fun K => by unfold ae_gw; rw [hf]; rfl
  have oz := tp_gw ht
  obtain ⟨a1, a2, a3, a4, a5⟩ := rdo_inr _ _ _ _ (by omega) h0
  have ge := fun Q => m_X10_endOnTape (d := d + 1) (Q := Q) hf hs hA ht (i := l) a2
  cases e : rdt A ns tp l with
  | inl v1 =>
    rw [e] at ge
    have hv : v1 < nI 0 := by rcases rdo_inl _ _ _ _ e with z | z <;> rw [z] <;> decide +kernel
    simp (disch := first | exact ae_isR_ref _ | exact ae_isR_null | exact ae_isR_rf _ | exact ae_cat_ref _ | exact ae_cat_int _ | exact ae_cat_null | exact ae_cat_rf _ | exact ae_nz0 | exact ae_nz1 | exact ae_fz0 | exact ae_fz1 | exact cI_na (by omega) | exact cI_ix (by omega) | exact cI_nn (by omega) | exact cI_nz (by omega) | exact cI_cp (by omega) | assumption | omega) only [s_X10_faultOfRule_0, s_X10_faultOfRule_1, s_X10_faultOfRule_2 hf, s_X10_faultOfRule_5, s_X10_faultOfRule_6, s_X10_faultOfRule_7, s_X10_faultOfRule_10, s_X10_faultOfRule_11, e_X10_faultOfRule, og_0, og_1, og_2, og_3, og_4, og_5, og_6, og_7, og_8, og_9, og_10, og_11, og_12, op_6, op_8, op_9, op_10, op_11, op_12, dg_0, dg_1, dg_2, dg_3, dp_1, dp_2, dp_3, ng_b, ng_d, mz_m, ms_m, ov_2, nset_d, nset_b, uI_1, uI_2, uR_1, uR_21, uR_22, va_rf, Bool.false_eq_true, ae_Ki, ae_Kb, ae_Kj, ae_Ka, ae_Si, ae_Sb, ae_Sj, ae_Sn, List.getElem?_cons_succ, List.getElem?_cons_zero, ↓reduceIte, if_true, if_false, nI_ofNat, true_or, or_true, false_or, or_false, true_and, and_true, false_and, and_false, or_self, and_self, not_true_eq_false, not_false_eq_true, eq_self, List.length_cons, List.length_nil, Nat.reduceAdd, Nat.reduceLT, Nat.reduceSub, List.set_cons_succ, List.set_cons_zero, Option.toList, List.nil_append, List.cons_append, cI_ltT, cI_ltF, cI_leT, cI_leF, cI_eqT, cI_eqF, cI_cl, cN_leT, cN_leF, cN_ltT, cN_ltF, cN_eqT, cN_eqF, cI_add, cI_sub, cI_m1a, cI_m1b, cI_m1c, cI_m1d, cI_m1e, cI_m1f, ge, rdv, ng_le hv]
  | inr j =>
    rw [e] at ge
    obtain ⟨b1, b2, b3, b4, b5⟩ := rdo_inr _ _ _ _ (by omega) e
    dsimp only
    by_cases c : j < tp.length
    · rw [if_pos c]
      simp (disch := first | exact ae_isR_ref _ | exact ae_isR_null | exact ae_isR_rf _ | exact ae_cat_ref _ | exact ae_cat_int _ | exact ae_cat_null | exact ae_cat_rf _ | exact ae_nz0 | exact ae_nz1 | exact ae_fz0 | exact ae_fz1 | exact cI_na (by omega) | exact cI_ix (by omega) | exact cI_nn (by omega) | exact cI_nz (by omega) | exact cI_cp (by omega) | assumption | omega) only [s_X10_faultOfRule_0, s_X10_faultOfRule_1, s_X10_faultOfRule_2 hf, s_X10_faultOfRule_5, s_X10_faultOfRule_6, s_X10_faultOfRule_7, s_X10_faultOfRule_10, s_X10_faultOfRule_11, s_X10_faultOfRule_12, s_X10_faultOfRule_13, s_X10_faultOfRule_14, s_X10_faultOfRule_17, s_X10_faultOfRule_20, s_X10_faultOfRule_23, s_X10_faultOfRule_25, e_X10_faultOfRule, og_0, og_1, og_2, og_3, og_4, og_5, og_6, og_7, og_8, og_9, og_10, og_11, og_12, op_6, op_8, op_9, op_10, op_11, op_12, dg_0, dg_1, dg_2, dg_3, dp_1, dp_2, dp_3, ng_b, ng_d, mz_m, ms_m, ov_2, nset_d, nset_b, uI_1, uI_2, uR_1, uR_21, uR_22, va_rf, Bool.false_eq_true, ae_Ki, ae_Kb, ae_Kj, ae_Ka, ae_Si, ae_Sb, ae_Sj, ae_Sn, List.getElem?_cons_succ, List.getElem?_cons_zero, ↓reduceIte, if_true, if_false, nI_ofNat, true_or, or_true, false_or, or_false, true_and, and_true, false_and, and_false, or_self, and_self, not_true_eq_false, not_false_eq_true, eq_self, List.length_cons, List.length_nil, Nat.reduceAdd, Nat.reduceLT, Nat.reduceSub, List.set_cons_succ, List.set_cons_zero, Option.toList, List.nil_append, List.cons_append, cI_ltT, cI_ltF, cI_leT, cI_leF, cI_eqT, cI_eqF, cI_cl, cN_leT, cN_leF, cN_ltT, cN_ltF, cN_eqT, cN_eqF, cI_add, cI_sub, cI_m1a, cI_m1b, cI_m1c, cI_m1d, cI_m1e, cI_m1f, ge, rdv, o1, oz]
    · rw [if_neg c]
      have ej : j = tp.length := by omega
      subst ej
      obtain ⟨k1, k2, k3, k4, k5⟩ := rdt_two h0 e
      have ga := fun Q => tp_at (d := d + 2) ht (show 0 < tp.length by omega) Q
      have h4 := t4 0 (by omega)
      have gF := fun Q => m_X7_isFunction (d := d + 2) (Q := Q) (v := tp.getD 0 0) hs hns (by omega) hF
      unfold fot
      by_cases c1 : F (tp.getD 0 0) = false
      · rw [if_pos c1]
        rw [c1, if_neg (by decide)] at gF
        simp (disch := first | exact ae_isR_ref _ | exact ae_isR_null | exact ae_isR_rf _ | exact ae_cat_ref _ | exact ae_cat_int _ | exact ae_cat_null | exact ae_cat_rf _ | exact ae_nz0 | exact ae_nz1 | exact ae_fz0 | exact ae_fz1 | exact cI_na (by omega) | exact cI_ix (by omega) | exact cI_nn (by omega) | exact cI_nz (by omega) | exact cI_cp (by omega) | assumption | omega) only [s_X10_faultOfRule_0, s_X10_faultOfRule_1, s_X10_faultOfRule_2 hf, s_X10_faultOfRule_5, s_X10_faultOfRule_6, s_X10_faultOfRule_7, s_X10_faultOfRule_10, s_X10_faultOfRule_11, s_X10_faultOfRule_12, s_X10_faultOfRule_13, s_X10_faultOfRule_14, s_X10_faultOfRule_17, s_X10_faultOfRule_20, s_X10_faultOfRule_23, s_X10_faultOfRule_25, s_X10_faultOfRule_26, s_X10_faultOfRule_27, s_X10_faultOfRule_30, s_X10_faultOfRule_31, s_X10_faultOfRule_34, s_X10_faultOfRule_35 t1.1, s_X10_faultOfRule_38 hs.1, s_X10_faultOfRule_41, s_X10_faultOfRule_44, s_X10_faultOfRule_46, e_X10_faultOfRule, og_0, og_1, og_2, og_3, og_4, og_5, og_6, og_7, og_8, og_9, og_10, og_11, og_12, op_6, op_8, op_9, op_10, op_11, op_12, dg_0, dg_1, dg_2, dg_3, dp_1, dp_2, dp_3, ng_b, ng_d, mz_m, ms_m, ov_2, nset_d, nset_b, uI_1, uI_2, uR_1, uR_21, uR_22, va_rf, Bool.false_eq_true, ae_Ki, ae_Kb, ae_Kj, ae_Ka, ae_Si, ae_Sb, ae_Sj, ae_Sn, List.getElem?_cons_succ, List.getElem?_cons_zero, ↓reduceIte, if_true, if_false, nI_ofNat, true_or, or_true, false_or, or_false, true_and, and_true, false_and, and_false, or_self, and_self, not_true_eq_false, not_false_eq_true, eq_self, List.length_cons, List.length_nil, Nat.reduceAdd, Nat.reduceLT, Nat.reduceSub, List.set_cons_succ, List.set_cons_zero, Option.toList, List.nil_append, List.cons_append, cI_ltT, cI_ltF, cI_leT, cI_leF, cI_eqT, cI_eqF, cI_cl, cN_leT, cN_leF, cN_ltT, cN_ltF, cN_eqT, cN_eqF, cI_add, cI_sub, cI_m1a, cI_m1b, cI_m1c, cI_m1d, cI_m1e, cI_m1f, ge, rdv, o1, o0, oz, ga, gF]
      · rw [if_neg c1]
        have c1' : F (tp.getD 0 0) = true := by simpa using c1
        rw [c1', if_pos rfl] at gF
        have gd := m_X10_fr_deep (d := d + 2) (Q := Q) hf hs hns hF ht (l := l) k5 (l2 := some (.int (nI tp.length))) (l - 1) 1 (by omega)
        have gv := fun Q => m_X10_faultOfVariables (d := d) (Q := Q) hf ht k2 hns k5 k4
        have hpre : ae_wm (d + 3) mX10_faultOfRule [.ref x, .int (nI l)] G Q = ae_wp (d + 3) mX10_faultOfRule 49 [some (.ref x), some (.int (nI l)), some (.int (nI tp.length)), some (.int (nI 1))] [] G Q := by
          simp (disch := first | exact ae_isR_ref _ | exact ae_isR_null | exact ae_isR_rf _ | exact ae_cat_ref _ | exact ae_cat_int _ | exact ae_cat_null | exact ae_cat_rf _ | exact ae_nz0 | exact ae_nz1 | exact ae_fz0 | exact ae_fz1 | exact cI_na (by omega) | exact cI_ix (by omega) | exact cI_nn (by omega) | exact cI_nz (by omega) | exact cI_cp (by omega) | assumption | omega) only [s_X10_faultOfRule_0, s_X10_faultOfRule_1, s_X10_faultOfRule_2 hf, s_X10_faultOfRule_5, s_X10_faultOfRule_6, s_X10_faultOfRule_7, s_X10_faultOfRule_10, s_X10_faultOfRule_11, s_X10_faultOfRule_12, s_X10_faultOfRule_13, s_X10_faultOfRule_14, s_X10_faultOfRule_17, s_X10_faultOfRule_20, s_X10_faultOfRule_23, s_X10_faultOfRule_25, s_X10_faultOfRule_26, s_X10_faultOfRule_27, s_X10_faultOfRule_30, s_X10_faultOfRule_31, s_X10_faultOfRule_34, s_X10_faultOfRule_35 t1.1, s_X10_faultOfRule_38 hs.1, s_X10_faultOfRule_41, s_X10_faultOfRule_44, s_X10_faultOfRule_46, s_X10_faultOfRule_47, s_X10_faultOfRule_48, e_X10_faultOfRule, og_0, og_1, og_2, og_3, og_4, og_5, og_6, og_7, og_8, og_9, og_10, og_11, og_12, op_6, op_8, op_9, op_10, op_11, op_12, dg_0, dg_1, dg_2, dg_3, dp_1, dp_2, dp_3, ng_b, ng_d, mz_m, ms_m, ov_2, nset_d, nset_b, uI_1, uI_2, uR_1, uR_21, uR_22, va_rf, Bool.false_eq_true, ae_Ki, ae_Kb, ae_Kj, ae_Ka, ae_Si, ae_Sb, ae_Sj, ae_Sn, List.getElem?_cons_succ, List.getElem?_cons_zero, ↓reduceIte, if_true, if_false, nI_ofNat, true_or, or_true, false_or, or_false, true_and, and_true, false_and, and_false, or_self, and_self, not_true_eq_false, not_false_eq_true, eq_self, List.length_cons, List.length_nil, Nat.reduceAdd, Nat.reduceLT, Nat.reduceSub, List.set_cons_succ, List.set_cons_zero, Option.toList, List.nil_append, List.cons_append, cI_ltT, cI_ltF, cI_leT, cI_leF, cI_eqT, cI_eqF, cI_cl, cN_leT, cN_leF, cN_ltT, cN_ltF, cN_eqT, cN_eqF, cI_add, cI_sub, cI_m1a, cI_m1b, cI_m1c, cI_m1d, cI_m1e, cI_m1f, ge, rdv, o1, o0, oz, ga, gF]
        rw [hpre, gd]
        by_cases c2 : tdp F tp l = true
        · rw [if_pos (show exF (fun k => F (tp.getD k 0)) (l - 1) 1 = true from c2), if_pos c2]
        · rw [if_neg (show ¬ exF (fun k => F (tp.getD k 0)) (l - 1) 1 = true from c2), if_neg c2]
          have e40 : (if (0 : Nat) = 40 then (-18 : Int32) else nI 0) = nI 0 := rfl
          rw [e40]
          simp (disch := first | exact ae_isR_ref _ | exact ae_isR_null | exact ae_isR_rf _ | exact ae_cat_ref _ | exact ae_cat_int _ | exact ae_cat_null | exact ae_cat_rf _ | exact ae_nz0 | exact ae_nz1 | exact ae_fz0 | exact ae_fz1 | exact cI_na (by omega) | exact cI_ix (by omega) | exact cI_nn (by omega) | exact cI_nz (by omega) | exact cI_cp (by omega) | assumption | omega) only [s_X10_faultOfRule_81, s_X10_faultOfRule_82, s_X10_faultOfRule_83 hf, s_X10_faultOfRule_86, og_0, og_1, og_2, og_3, og_4, og_5, og_6, og_7, og_8, og_9, og_10, og_11, og_12, op_6, op_8, op_9, op_10, op_11, op_12, dg_0, dg_1, dg_2, dg_3, dp_1, dp_2, dp_3, ng_b, ng_d, mz_m, ms_m, ov_2, nset_d, nset_b, uI_1, uI_2, uR_1, uR_21, uR_22, va_rf, Bool.false_eq_true, ae_Ki, ae_Kb, ae_Kj, ae_Ka, ae_Si, ae_Sb, ae_Sj, ae_Sn, List.getElem?_cons_succ, List.getElem?_cons_zero, ↓reduceIte, if_true, if_false, nI_ofNat, true_or, or_true, false_or, or_false, true_and, and_true, false_and, and_false, or_self, and_self, not_true_eq_false, not_false_eq_true, eq_self, List.length_cons, List.length_nil, Nat.reduceAdd, Nat.reduceLT, Nat.reduceSub, List.set_cons_succ, List.set_cons_zero, Option.toList, List.nil_append, List.cons_append, cI_ltT, cI_ltF, cI_leT, cI_leF, cI_eqT, cI_eqF, cI_cl, cN_leT, cN_leF, cN_ltT, cN_ltF, cN_eqT, cN_eqF, cI_add, cI_sub, cI_m1a, cI_m1b, cI_m1c, cI_m1d, cI_m1e, cI_m1f, gv]
end FLT
