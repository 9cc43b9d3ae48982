/-! NarrowSolverModel: rule; keep as a whole; problem -/
/-- what is wrong with the tape as a rule -/
def ruf (A : Nat → Nat) (F : Nat → Bool) (ns : Nat) (tp : List Nat) (rm : Nat) : Int32 := match rdt A ns tp 0 with
  | .inl v => v
  | .inr l => match rdt A ns tp l with
    | .inl v => v
    | .inr e => if e < tp.length then -13 else fot F tp l rm
theorem rat_app1 {rl : mR} {x : List Nat × Nat} {r : Nat} (h : r < rl.length) : rat (rl ++ [x]) r = rat rl r := by
  simp [rat, List.getD_eq_getElem?_getD, List.getElem?_append_left h]
theorem rat_app2 {rl : mR} {x : List Nat × Nat} : rat (rl ++ [x]) rl.length = x := by
  simp [rat, List.getD_eq_getElem?_getD]
theorem fot_ng {F : Nat → Bool} {tp : List Nat} {l rm : Nat} (h : fot F tp l rm = nI 0) : F (tp.getD 0 0) = true ∧ tdp F tp l = false ∧ ttw tp l = false ∧ tfr tp l = false ∧ rm ≠ 40 := by
  unfold fot at h
  by_cases c1 : F (tp.getD 0 0) = false
  · rw [if_pos c1] at h; exact absurd h (by decide +kernel)
  · rw [if_neg c1] at h
    by_cases c2 : tdp F tp l = true
    · rw [if_pos c2] at h; exact absurd h (by decide +kernel)
    · rw [if_neg c2] at h
      by_cases c3 : ttw tp l = true
      · rw [if_pos c3] at h; exact absurd h (by decide +kernel)
      · rw [if_neg c3] at h
        by_cases c4 : tfr tp l = true
        · rw [if_pos c4] at h; exact absurd h (by decide +kernel)
        · rw [if_neg c4] at h
          by_cases c5 : rm = 40
          · rw [if_pos c5] at h; exact absurd h (by decide +kernel)
          · exact ⟨by simpa using c1, by simpa using c2, by simpa using c3, by simpa using c4, c5⟩
theorem fot_vals (F : Nat → Bool) (tp : List Nat) (l rm : Nat) : fot F tp l rm = nI 0 ∨ fot F tp l rm < nI 0 := by
  unfold fot
  split
  · right; decide +kernel
  · split
    · right; decide +kernel
    · split
      · right; decide +kernel
      · split
        · right; decide +kernel
        · split
          · right; decide +kernel
          · left; rfl
theorem ng_ne {x : Int32} (h : x < nI 0) : (x = nI 0) = False := eq_false (fun e => by rw [e] at h; exact absurd h (by decide +kernel))
theorem rgo_app {ns : Nat} {A : Nat → Nat} {rl : mR} {tp : List Nat} {l : Nat} (hg : rgo ns A rl) (h40 : rl.length < 40) (h1 : tp.length ≤ 120) (h2 : kn1 ns tp) (h3 : rn A tp 2 = some 0) (h4 : l = te A tp 0) : rgo ns A (rl ++ [(tp, l)]) := by
  refine ⟨by simp; omega, fun r hr => ?_⟩
  by_cases c : r < rl.length
  · rw [rat_app1 c]; exact hg.2 r c
  · have e : r = rl.length := by simp at hr; omega
    subst e
    rw [rat_app2]
    exact ⟨h1, h2, h3, h4⟩
theorem uI_same {s : rS} {k : Nat} {v : Int32} (hv : s.1 k = v) : uI s k v = s := nb_eq (fun j => by
  rw [uI_1]
  by_cases ej : j = k
  · rw [if_pos ej, ej, hv]
  · rw [if_neg ej]) (fun _ => rfl) rfl
theorem m19_0 : ((-19 : Int32) = nI 0) = False := eq_false (by decide +kernel)
section REFS
variable {d : Nat} {Q : Option Value → ah_H → Prop} {h : ah_H} {q : Nat} {s : rS} {A : Nat → Nat} {ns : Nat} {rl : mR} {F : Nat → Bool} {tp : List Nat}
theorem m_X11_rule_bad (ht : rTape s tp) (hu : rU s A ns rl) (hF : fnl F ns (s.2.1 1)) {v : Int32} (hv : ruf A F ns tp rl.length = v) (hn : v < nI 0) : ae_wm (d + 6) mX11_rule [.ref q] (rh h q s) Q = Q (some (.int v)) (rh h q (uI s 4 (nI 0))) := by
  obtain ⟨hA, hr, hns⟩ := hu
  have g0 := fun Q => m_X11_readTerm (d := d + 3) (Q := Q) (h := h) (q := q) ht hA hns (i := 0) (by omega)
  unfold ruf at hv
  cases e : rdt A ns tp 0 with
  | inl v1 =>
    rw [e] at hv g0
    have hv : v1 = v := hv
    subst hv
    simp (disch := first | exact ae_isR_ref _ | exact ae_isR_null | exact ae_isR_rf _ | exact ae_cat_ref _ | exact ae_cat_int _ | exact ae_cat_null | exact ae_cat_rf _ | exact ae_nz0 | exact ae_nz1 | exact ae_fz0 | exact ae_fz1 | exact cI_na (by omega) | exact cI_ix (by omega) | exact cI_nn (by omega) | exact cI_nz (by omega) | exact cI_cp (by omega) | assumption | omega) only [s_X11_rule_0, s_X11_rule_1, s_X11_rule_2 rl_0, s_X11_rule_5, s_X11_rule_6, s_X11_rule_7, s_X11_rule_10, s_X11_rule_11, s_X11_rule_14, s_X11_rule_15, s_X11_rule_16 rl_0, s_X11_rule_19, s_X11_rule_20, s_X11_rule_21, s_X11_rule_24, s_X11_rule_25, s_X11_rule_28, s_X11_rule_29, s_X11_rule_30, s_X11_rule_33, s_X11_rule_36, s_X11_rule_38, s_X11_rule_41, s_X11_rule_42, s_X11_rule_43 rl_0, s_X11_rule_46, s_X11_rule_47, s_X11_rule_48, e_X11_rule, s_X11_rule_162, s_X11_rule_163, s_X11_rule_164, s_X11_rule_167, s_X11_rule_168, s_X11_rule_171, s_X11_rule_172, s_X11_rule_175, s_X11_rule_176, s_X11_rule_177, s_X11_rule_180, s_X11_rule_181, rg_0, rg_1, rg_2, rg_3, rg_4, rg_5, rg_6, rg_7, rg_8, rg_9, rg_10, rg_11, rg_12, rg_13, rg_14, rg_15, rg_16, rg_17, rg_18, rg_19, rg_20, rg_21, rg_22, rg_23, rg_24, rg_25, rg_26, rg_27, rg_28, rg_29, rg_30, rg_31, rg_32, rg_33, rg_34, rg_35, rg_36, rg_37, rg_38, rg_39, rg_40, rg_41, rg_42, rg_43, rg_44, rg_45, rg_46, rg_47, rg_48, rg_49, rg_50, rg_51, rg_52, rp_0, rp_4, rp_5, rp_14, rp_15, rp_26, rp_29, rp_30, rp_31, rp_32, rp_33, rp_35, rp_36, rp_38, rp_39, rp_41, rp_42, rp_44, rp_45, rp_47, rp_51, rz_1, rs_1, rz_2, rs_2, rz_3, rs_3, rz_6, rzW_6, rsW_6, rz_7, rs_7, rz_8, rs_8, rz_9, rzW_9, rsW_9, rz_10, rs_10, rz_11, rs_11, rz_12, rs_12, rz_13, rs_13, rz_16, rs_16, rz_17, rs_17, rz_18, rs_18, rz_19, rs_19, rz_20, rs_20, rz_21, rzW_21, rsW_21, rz_22, rs_22, rz_23, rs_23, rz_24, rs_24, rz_25, rs_25, rz_27, rzW_27, rsW_27, rz_28, rs_28, rz_34, rs_34, rz_37, rs_37, rz_40, rs_40, rz_43, rs_43, rz_46, rs_46, rz_48, rs_48, rz_49, rs_49, rz_50, rs_50, rz_52, rs_52, uI_1, uI_2, uR_1, uR_21, uR_22, uW_1, uW_21, uW_22, uW_3, uJ_1, uJ_21, uJ_22, uJ_3, rh_2, va_rf, Bool.false_eq_true, ae_Ki, ae_Kb, ae_Kj, ae_Ka, ae_Si, ae_Sb, ae_Sj, ae_Sn, List.getElem?_cons_succ, List.getElem?_cons_zero, ↓reduceIte, if_true, if_false, nI_ofNat, true_or, or_true, false_or, or_false, true_and, and_true, false_and, and_false, or_self, and_self, not_true_eq_false, not_false_eq_true, eq_self, List.length_cons, List.length_nil, Nat.reduceAdd, Nat.reduceLT, Nat.reduceSub, List.set_cons_succ, List.set_cons_zero, Option.toList, List.nil_append, List.cons_append, cI_ltT, cI_ltF, cI_leT, cI_leF, cI_eqT, cI_eqF, cI_cl, cN_leT, cN_leF, cN_ltT, cN_ltF, cN_eqT, cN_eqF, cI_add, cI_sub, cI_m1a, cI_m1b, cI_m1c, cI_m1d, cI_m1e, cI_m1f, g0, rdv, ng_le hn, ng_ne hn]
  | inr l =>
    rw [e] at hv g0
    obtain ⟨a1, a2, a3, a4, a5⟩ := rdo_inr _ _ _ _ (by omega) e
    have t3 := ht.2.2.1
    have g1 := fun Q => m_X11_readTerm (d := d + 3) (Q := Q) (h := h) (q := q) ht hA hns (i := l) a2
    dsimp only at hv
    cases e2 : rdt A ns tp l with
    | inl v1 =>
      rw [e2] at hv g1
      have hv : v1 = v := hv
      subst hv
      simp (disch := first | exact ae_isR_ref _ | exact ae_isR_null | exact ae_isR_rf _ | exact ae_cat_ref _ | exact ae_cat_int _ | exact ae_cat_null | exact ae_cat_rf _ | exact ae_nz0 | exact ae_nz1 | exact ae_fz0 | exact ae_fz1 | exact cI_na (by omega) | exact cI_ix (by omega) | exact cI_nn (by omega) | exact cI_nz (by omega) | exact cI_cp (by omega) | assumption | omega) only [s_X11_rule_0, s_X11_rule_1, s_X11_rule_2 rl_0, s_X11_rule_5, s_X11_rule_6, s_X11_rule_7, s_X11_rule_10, s_X11_rule_11, s_X11_rule_14, s_X11_rule_15, s_X11_rule_16 rl_0, s_X11_rule_19, s_X11_rule_20, s_X11_rule_21, s_X11_rule_24, s_X11_rule_25, s_X11_rule_28, s_X11_rule_29, s_X11_rule_30, s_X11_rule_33, s_X11_rule_36, s_X11_rule_38, s_X11_rule_41, s_X11_rule_42, s_X11_rule_43 rl_0, s_X11_rule_46, s_X11_rule_47, s_X11_rule_48, e_X11_rule, s_X11_rule_162, s_X11_rule_163, s_X11_rule_164, s_X11_rule_167, s_X11_rule_168, s_X11_rule_171, s_X11_rule_172, s_X11_rule_175, s_X11_rule_176, s_X11_rule_177, s_X11_rule_180, s_X11_rule_181, rg_0, rg_1, rg_2, rg_3, rg_4, rg_5, rg_6, rg_7, rg_8, rg_9, rg_10, rg_11, rg_12, rg_13, rg_14, rg_15, rg_16, rg_17, rg_18, rg_19, rg_20, rg_21, rg_22, rg_23, rg_24, rg_25, rg_26, rg_27, rg_28, rg_29, rg_30, rg_31, rg_32, rg_33, rg_34, rg_35, rg_36, rg_37, rg_38, rg_39, rg_40, rg_41, rg_42, rg_43, rg_44, rg_45, rg_46, rg_47, rg_48, rg_49, rg_50, rg_51, rg_52, rp_0, rp_4, rp_5, rp_14, rp_15, rp_26, rp_29, rp_30, rp_31, rp_32, rp_33, rp_35, rp_36, rp_38, rp_39, rp_41, rp_42, rp_44, rp_45, rp_47, rp_51, rz_1, rs_1, rz_2, rs_2, rz_3, rs_3, rz_6, rzW_6, rsW_6, rz_7, rs_7, rz_8, rs_8, rz_9, rzW_9, rsW_9, rz_10, rs_10, rz_11, rs_11, rz_12, rs_12, rz_13, rs_13, rz_16, rs_16, rz_17, rs_17, rz_18, rs_18, rz_19, rs_19, rz_20, rs_20, rz_21, rzW_21, rsW_21, rz_22, rs_22, rz_23, rs_23, rz_24, rs_24, rz_25, rs_25, rz_27, rzW_27, rsW_27, rz_28, rs_28, rz_34, rs_34, rz_37, rs_37, rz_40, rs_40, rz_43, rs_43, rz_46, rs_46, rz_48, rs_48, rz_49, rs_49, rz_50, rs_50, rz_52, rs_52, uI_1, uI_2, uR_1, uR_21, uR_22, uW_1, uW_21, uW_22, uW_3, uJ_1, uJ_21, uJ_22, uJ_3, rh_2, va_rf, Bool.false_eq_true, ae_Ki, ae_Kb, ae_Kj, ae_Ka, ae_Si, ae_Sb, ae_Sj, ae_Sn, List.getElem?_cons_succ, List.getElem?_cons_zero, ↓reduceIte, if_true, if_false, nI_ofNat, true_or, or_true, false_or, or_false, true_and, and_true, false_and, and_false, or_self, and_self, not_true_eq_false, not_false_eq_true, eq_self, List.length_cons, List.length_nil, Nat.reduceAdd, Nat.reduceLT, Nat.reduceSub, List.set_cons_succ, List.set_cons_zero, Option.toList, List.nil_append, List.cons_append, cI_ltT, cI_ltF, cI_leT, cI_leF, cI_eqT, cI_eqF, cI_cl, cN_leT, cN_leF, cN_ltT, cN_ltF, cN_eqT, cN_eqF, cI_add, cI_sub, cI_m1a, cI_m1b, cI_m1c, cI_m1d, cI_m1e, cI_m1f, g0, g1, rdv, ng_le hn, ng_ne hn]
    | inr l2 =>
      rw [e2] at hv g1
      obtain ⟨b1, b2, b3, b4, b5⟩ := rdo_inr _ _ _ _ (by omega) e2
      dsimp only at hv
      by_cases c : l2 < tp.length
      · rw [if_pos c] at hv
        subst hv
        simp (disch := first | exact ae_isR_ref _ | exact ae_isR_null | exact ae_isR_rf _ | exact ae_cat_ref _ | exact ae_cat_int _ | exact ae_cat_null | exact ae_cat_rf _ | exact ae_nz0 | exact ae_nz1 | exact ae_fz0 | exact ae_fz1 | exact cI_na (by omega) | exact cI_ix (by omega) | exact cI_nn (by omega) | exact cI_nz (by omega) | exact cI_cp (by omega) | assumption | omega) only [s_X11_rule_0, s_X11_rule_1, s_X11_rule_2 rl_0, s_X11_rule_5, s_X11_rule_6, s_X11_rule_7, s_X11_rule_10, s_X11_rule_11, s_X11_rule_14, s_X11_rule_15, s_X11_rule_16 rl_0, s_X11_rule_19, s_X11_rule_20, s_X11_rule_21, s_X11_rule_24, s_X11_rule_25, s_X11_rule_28, s_X11_rule_29, s_X11_rule_30, s_X11_rule_33, s_X11_rule_36, s_X11_rule_38, s_X11_rule_41, s_X11_rule_42, s_X11_rule_43 rl_0, s_X11_rule_46, s_X11_rule_47, s_X11_rule_48, e_X11_rule, s_X11_rule_162, s_X11_rule_163, s_X11_rule_164, s_X11_rule_167, s_X11_rule_168, s_X11_rule_171, s_X11_rule_172, s_X11_rule_175, s_X11_rule_176, s_X11_rule_177, s_X11_rule_180, s_X11_rule_181, rg_0, rg_1, rg_2, rg_3, rg_4, rg_5, rg_6, rg_7, rg_8, rg_9, rg_10, rg_11, rg_12, rg_13, rg_14, rg_15, rg_16, rg_17, rg_18, rg_19, rg_20, rg_21, rg_22, rg_23, rg_24, rg_25, rg_26, rg_27, rg_28, rg_29, rg_30, rg_31, rg_32, rg_33, rg_34, rg_35, rg_36, rg_37, rg_38, rg_39, rg_40, rg_41, rg_42, rg_43, rg_44, rg_45, rg_46, rg_47, rg_48, rg_49, rg_50, rg_51, rg_52, rp_0, rp_4, rp_5, rp_14, rp_15, rp_26, rp_29, rp_30, rp_31, rp_32, rp_33, rp_35, rp_36, rp_38, rp_39, rp_41, rp_42, rp_44, rp_45, rp_47, rp_51, rz_1, rs_1, rz_2, rs_2, rz_3, rs_3, rz_6, rzW_6, rsW_6, rz_7, rs_7, rz_8, rs_8, rz_9, rzW_9, rsW_9, rz_10, rs_10, rz_11, rs_11, rz_12, rs_12, rz_13, rs_13, rz_16, rs_16, rz_17, rs_17, rz_18, rs_18, rz_19, rs_19, rz_20, rs_20, rz_21, rzW_21, rsW_21, rz_22, rs_22, rz_23, rs_23, rz_24, rs_24, rz_25, rs_25, rz_27, rzW_27, rsW_27, rz_28, rs_28, rz_34, rs_34, rz_37, rs_37, rz_40, rs_40, rz_43, rs_43, rz_46, rs_46, rz_48, rs_48, rz_49, rs_49, rz_50, rs_50, rz_52, rs_52, uI_1, uI_2, uR_1, uR_21, uR_22, uW_1, uW_21, uW_22, uW_3, uJ_1, uJ_21, uJ_22, uJ_3, rh_2, va_rf, Bool.false_eq_true, ae_Ki, ae_Kb, ae_Kj, ae_Ka, ae_Si, ae_Sb, ae_Sj, ae_Sn, List.getElem?_cons_succ, List.getElem?_cons_zero, ↓reduceIte, if_true, if_false, nI_ofNat, true_or, or_true, false_or, or_false, true_and, and_true, false_and, and_false, or_self, and_self, not_true_eq_false, not_false_eq_true, eq_self, List.length_cons, List.length_nil, Nat.reduceAdd, Nat.reduceLT, Nat.reduceSub, List.set_cons_succ, List.set_cons_zero, Option.toList, List.nil_append, List.cons_append, cI_ltT, cI_ltF, cI_leT, cI_leF, cI_eqT, cI_eqF, cI_cl, cN_leT, cN_leF, cN_ltT, cN_ltF, cN_eqT, cN_eqF, cI_add, cI_sub, cI_m1a, cI_m1b, cI_m1c, cI_m1d, cI_m1e, cI_m1f, g0, g1, rdv, ht.1, ng_ne hn]
      · rw [if_neg c] at hv
        have ec : l2 = tp.length := by omega
        subst ec
        obtain ⟨k1, k2, k3, k4, k5⟩ := rdt_two e e2
        have g2 := fun Q => m_X11_faultOfTerms (d := d + 5) (Q := Q) (h := h) (q := q) ht hr hA.1 hF (knw_kn1 k2) a2 k4
        rw [hv] at g2
        simp (disch := first | exact ae_isR_ref _ | exact ae_isR_null | exact ae_isR_rf _ | exact ae_cat_ref _ | exact ae_cat_int _ | exact ae_cat_null | exact ae_cat_rf _ | exact ae_nz0 | exact ae_nz1 | exact ae_fz0 | exact ae_fz1 | exact cI_na (by omega) | exact cI_ix (by omega) | exact cI_nn (by omega) | exact cI_nz (by omega) | exact cI_cp (by omega) | assumption | omega) only [s_X11_rule_0, s_X11_rule_1, s_X11_rule_2 rl_0, s_X11_rule_5, s_X11_rule_6, s_X11_rule_7, s_X11_rule_10, s_X11_rule_11, s_X11_rule_14, s_X11_rule_15, s_X11_rule_16 rl_0, s_X11_rule_19, s_X11_rule_20, s_X11_rule_21, s_X11_rule_24, s_X11_rule_25, s_X11_rule_28, s_X11_rule_29, s_X11_rule_30, s_X11_rule_33, s_X11_rule_36, s_X11_rule_38, s_X11_rule_41, s_X11_rule_42, s_X11_rule_43 rl_0, s_X11_rule_46, s_X11_rule_47, s_X11_rule_48, e_X11_rule, s_X11_rule_162, s_X11_rule_163, s_X11_rule_164, s_X11_rule_167, s_X11_rule_168, s_X11_rule_171, s_X11_rule_172, s_X11_rule_175, s_X11_rule_176, s_X11_rule_177, s_X11_rule_180, s_X11_rule_181, rg_0, rg_1, rg_2, rg_3, rg_4, rg_5, rg_6, rg_7, rg_8, rg_9, rg_10, rg_11, rg_12, rg_13, rg_14, rg_15, rg_16, rg_17, rg_18, rg_19, rg_20, rg_21, rg_22, rg_23, rg_24, rg_25, rg_26, rg_27, rg_28, rg_29, rg_30, rg_31, rg_32, rg_33, rg_34, rg_35, rg_36, rg_37, rg_38, rg_39, rg_40, rg_41, rg_42, rg_43, rg_44, rg_45, rg_46, rg_47, rg_48, rg_49, rg_50, rg_51, rg_52, rp_0, rp_4, rp_5, rp_14, rp_15, rp_26, rp_29, rp_30, rp_31, rp_32, rp_33, rp_35, rp_36, rp_38, rp_39, rp_41, rp_42, rp_44, rp_45, rp_47, rp_51, rz_1, rs_1, rz_2, rs_2, rz_3, rs_3, rz_6, rzW_6, rsW_6, rz_7, rs_7, rz_8, rs_8, rz_9, rzW_9, rsW_9, rz_10, rs_10, rz_11, rs_11, rz_12, rs_12, rz_13, rs_13, rz_16, rs_16, rz_17, rs_17, rz_18, rs_18, rz_19, rs_19, rz_20, rs_20, rz_21, rzW_21, rsW_21, rz_22, rs_22, rz_23, rs_23, rz_24, rs_24, rz_25, rs_25, rz_27, rzW_27, rsW_27, rz_28, rs_28, rz_34, rs_34, rz_37, rs_37, rz_40, rs_40, rz_43, rs_43, rz_46, rs_46, rz_48, rs_48, rz_49, rs_49, rz_50, rs_50, rz_52, rs_52, uI_1, uI_2, uR_1, uR_21, uR_22, uW_1, uW_21, uW_22, uW_3, uJ_1, uJ_21, uJ_22, uJ_3, rh_2, va_rf, Bool.false_eq_true, ae_Ki, ae_Kb, ae_Kj, ae_Ka, ae_Si, ae_Sb, ae_Sj, ae_Sn, List.getElem?_cons_succ, List.getElem?_cons_zero, ↓reduceIte, if_true, if_false, nI_ofNat, true_or, or_true, false_or, or_false, true_and, and_true, false_and, and_false, or_self, and_self, not_true_eq_false, not_false_eq_true, eq_self, List.length_cons, List.length_nil, Nat.reduceAdd, Nat.reduceLT, Nat.reduceSub, List.set_cons_succ, List.set_cons_zero, Option.toList, List.nil_append, List.cons_append, cI_ltT, cI_ltF, cI_leT, cI_leF, cI_eqT, cI_eqF, cI_cl, cN_leT, cN_leF, cN_ltT, cN_ltF, cN_eqT, cN_eqF, cI_add, cI_sub, cI_m1a, cI_m1b, cI_m1c, cI_m1d, cI_m1e, cI_m1f, g0, g1, rdv, ht.1, g2, ng_ne hn]
theorem m_X11_ru_copy (ht : rTape s tp) {r : Nat} (hr : s.1 5 = nI r) (hr4 : r < 40) {l1 l2 l3 : Option Value} {g : Nat → Int32} : ∀ (t i : Nat), i + t = tp.length → ae_wp d mX11_rule 54 [some (.ref q), l1, l2, l3, some (.int (nI i))] [] (rh h q (uW s 6 r (lf (tp.take i) g))) Q = ae_wp d mX11_rule 88 [some (.ref q), l1, l2, l3, some (.int (nI tp.length))] [] (rh h q (uW s 6 r (lf tp g))) Q := by
  obtain ⟨t1, t2, t3, t4⟩ := ht
  intro t
  induction t with
  | zero =>
    intro i hi
    have e : i = tp.length := by omega
    subst e
    rw [List.take_length]
    simp (disch := first | exact ae_isR_ref _ | exact ae_isR_null | exact ae_isR_rf _ | exact ae_cat_ref _ | exact ae_cat_int _ | exact ae_cat_null | exact ae_cat_rf _ | exact ae_nz0 | exact ae_nz1 | exact ae_fz0 | exact ae_fz1 | exact cI_na (by omega) | exact cI_ix (by omega) | exact cI_nn (by omega) | exact cI_nz (by omega) | exact cI_cp (by omega) | assumption | omega) only [s_X11_rule_54, s_X11_rule_56, s_X11_rule_57, s_X11_rule_60, rg_0, rg_1, rg_2, rg_3, rg_4, rg_5, rg_6, rg_7, rg_8, rg_9, rg_10, rg_11, rg_12, rg_13, rg_14, rg_15, rg_16, rg_17, rg_18, rg_19, rg_20, rg_21, rg_22, rg_23, rg_24, rg_25, rg_26, rg_27, rg_28, rg_29, rg_30, rg_31, rg_32, rg_33, rg_34, rg_35, rg_36, rg_37, rg_38, rg_39, rg_40, rg_41, rg_42, rg_43, rg_44, rg_45, rg_46, rg_47, rg_48, rg_49, rg_50, rg_51, rg_52, rp_0, rp_4, rp_5, rp_14, rp_15, rp_26, rp_29, rp_30, rp_31, rp_32, rp_33, rp_35, rp_36, rp_38, rp_39, rp_41, rp_42, rp_44, rp_45, rp_47, rp_51, rz_1, rs_1, rz_2, rs_2, rz_3, rs_3, rz_6, rzW_6, rsW_6, rz_7, rs_7, rz_8, rs_8, rz_9, rzW_9, rsW_9, rz_10, rs_10, rz_11, rs_11, rz_12, rs_12, rz_13, rs_13, rz_16, rs_16, rz_17, rs_17, rz_18, rs_18, rz_19, rs_19, rz_20, rs_20, rz_21, rzW_21, rsW_21, rz_22, rs_22, rz_23, rs_23, rz_24, rs_24, rz_25, rs_25, rz_27, rzW_27, rsW_27, rz_28, rs_28, rz_34, rs_34, rz_37, rs_37, rz_40, rs_40, rz_43, rs_43, rz_46, rs_46, rz_48, rs_48, rz_49, rs_49, rz_50, rs_50, rz_52, rs_52, uI_1, uI_2, uR_1, uR_21, uR_22, uW_1, uW_21, uW_22, uW_3, uJ_1, uJ_21, uJ_22, uJ_3, rh_2, va_rf, Bool.false_eq_true, ae_Ki, ae_Kb, ae_Kj, ae_Ka, ae_Si, ae_Sb, ae_Sj, ae_Sn, List.getElem?_cons_succ, List.getElem?_cons_zero, ↓reduceIte, if_true, if_false, nI_ofNat, true_or, or_true, false_or, or_false, true_and, and_true, false_and, and_false, or_self, and_self, not_true_eq_false, not_false_eq_true, eq_self, List.length_cons, List.length_nil, Nat.reduceAdd, Nat.reduceLT, Nat.reduceSub, List.set_cons_succ, List.set_cons_zero, Option.toList, List.nil_append, List.cons_append, cI_ltT, cI_ltF, cI_leT, cI_leF, cI_eqT, cI_eqF, cI_cl, cN_leT, cN_leF, cN_ltT, cN_ltF, cN_eqT, cN_eqF, cI_add, cI_sub, cI_m1a, cI_m1b, cI_m1c, cI_m1d, cI_m1e, cI_m1f, t1]
  | succ t ih =>
    intro i hi
    have hil : i < tp.length := by omega
    have e2 := t2 i hil
    refine Eq.trans ?_ (s_X11_rule_85.trans (ih (i + 1) (by omega)))
    simp (disch := first | exact ae_isR_ref _ | exact ae_isR_null | exact ae_isR_rf _ | exact ae_cat_ref _ | exact ae_cat_int _ | exact ae_cat_null | exact ae_cat_rf _ | exact ae_nz0 | exact ae_nz1 | exact ae_fz0 | exact ae_fz1 | exact cI_na (by omega) | exact cI_ix (by omega) | exact cI_nn (by omega) | exact cI_nz (by omega) | exact cI_cp (by omega) | assumption | omega) only [s_X11_rule_54, s_X11_rule_56, s_X11_rule_57, s_X11_rule_60, s_X11_rule_63, s_X11_rule_64, s_X11_rule_67, s_X11_rule_68, s_X11_rule_71, s_X11_rule_72, s_X11_rule_74, s_X11_rule_75, s_X11_rule_78, s_X11_rule_80, s_X11_rule_81, s_X11_rule_82, rg_0, rg_1, rg_2, rg_3, rg_4, rg_5, rg_6, rg_7, rg_8, rg_9, rg_10, rg_11, rg_12, rg_13, rg_14, rg_15, rg_16, rg_17, rg_18, rg_19, rg_20, rg_21, rg_22, rg_23, rg_24, rg_25, rg_26, rg_27, rg_28, rg_29, rg_30, rg_31, rg_32, rg_33, rg_34, rg_35, rg_36, rg_37, rg_38, rg_39, rg_40, rg_41, rg_42, rg_43, rg_44, rg_45, rg_46, rg_47, rg_48, rg_49, rg_50, rg_51, rg_52, rp_0, rp_4, rp_5, rp_14, rp_15, rp_26, rp_29, rp_30, rp_31, rp_32, rp_33, rp_35, rp_36, rp_38, rp_39, rp_41, rp_42, rp_44, rp_45, rp_47, rp_51, rz_1, rs_1, rz_2, rs_2, rz_3, rs_3, rz_6, rzW_6, rsW_6, rz_7, rs_7, rz_8, rs_8, rz_9, rzW_9, rsW_9, rz_10, rs_10, rz_11, rs_11, rz_12, rs_12, rz_13, rs_13, rz_16, rs_16, rz_17, rs_17, rz_18, rs_18, rz_19, rs_19, rz_20, rs_20, rz_21, rzW_21, rsW_21, rz_22, rs_22, rz_23, rs_23, rz_24, rs_24, rz_25, rs_25, rz_27, rzW_27, rsW_27, rz_28, rs_28, rz_34, rs_34, rz_37, rs_37, rz_40, rs_40, rz_43, rs_43, rz_46, rs_46, rz_48, rs_48, rz_49, rs_49, rz_50, rs_50, rz_52, rs_52, uI_1, uI_2, uR_1, uR_21, uR_22, uW_1, uW_21, uW_22, uW_3, uJ_1, uJ_21, uJ_22, uJ_3, rh_2, va_rf, Bool.false_eq_true, ae_Ki, ae_Kb, ae_Kj, ae_Ka, ae_Si, ae_Sb, ae_Sj, ae_Sn, List.getElem?_cons_succ, List.getElem?_cons_zero, ↓reduceIte, if_true, if_false, nI_ofNat, true_or, or_true, false_or, or_false, true_and, and_true, false_and, and_false, or_self, and_self, not_true_eq_false, not_false_eq_true, eq_self, List.length_cons, List.length_nil, Nat.reduceAdd, Nat.reduceLT, Nat.reduceSub, List.set_cons_succ, List.set_cons_zero, Option.toList, List.nil_append, List.cons_append, cI_ltT, cI_ltF, cI_leT, cI_leF, cI_eqT, cI_eqF, cI_cl, cN_leT, cN_leF, cN_ltT, cN_ltF, cN_eqT, cN_eqF, cI_add, cI_sub, cI_m1a, cI_m1b, cI_m1c, cI_m1d, cI_m1e, cI_m1f, t1, hr, e2, uW_uW, lf_take hil]
theorem m_X11_rule_ok (ht : rTape s tp) (hu : rU s A ns rl) (hg : rgo ns A rl) (hF : fnl F ns (s.2.1 1)) {l : Nat} (h1 : rdt A ns tp 0 = .inr l) (h2 : rdt A ns tp l = .inr tp.length) (h3 : fot F tp l rl.length = nI 0) : ∃ s2, (∀ Q, ae_wm (d + 6) mX11_rule [.ref q] (rh h q s) Q = Q (some (.int (match ltr A (rl ++ [(tp, l)]) ns (tp.getD 0 0) with
    | none => -19
    | some _ => nI rl.length))) (rh h q s2)) ∧ rRules s2 (match ltr A (rl ++ [(tp, l)]) ns (tp.getD 0 0) with
    | none => rl
    | some _ => rl ++ [(tp, l)]) ∧ s2.1 4 = nI 0 ∧ frm s s2 [4, 5, 14, 15, 51] [7, 8, 10, 12, 13, 16, 17, 18, 19, 20, 49, 50, 52] [6, 9] := by
  have hu0 := hu
  obtain ⟨hA, hr, hns⟩ := hu
  have hr0 := hr
  obtain ⟨r1, r2, r3⟩ := hr0
  have ht0 := ht
  obtain ⟨t1, t2, t3, t4⟩ := ht0
  obtain ⟨k1, k2, k3, k4, k5⟩ := rdt_two h1 h2
  obtain ⟨f1, f2, f3, f4, f5⟩ := fot_ng h3
  have hn24 := hA.1
  have hf : tp.getD 0 0 < ns := by
    rcases Nat.lt_or_ge (tp.getD 0 0) ns with z | z
    · exact z
    · rw [hF.2 _ z] at f1; cases f1
  have g0 := fun Q => m_X11_readTerm (d := d + 3) (Q := Q) (h := h) (q := q) ht hA hns (i := 0) (by omega)
  have g1 := fun Q => m_X11_readTerm (d := d + 3) (Q := Q) (h := h) (q := q) ht hA hns (i := l) k5
  have g2 := fun Q => m_X11_faultOfTerms (d := d + 5) (Q := Q) (h := h) (q := q) ht hr hn24 hF (knw_kn1 k2) k5 k4
  rw [h1] at g0
  rw [h2] at g1
  rw [h3] at g2
  have g3 := fun Q => m_X11_ru_copy (d := d + 6) (Q := Q) (h := h) (q := q) ht r1 (by omega) (l1 := some (.int (nI l))) (l2 := some (.int (nI tp.length))) (l3 := some (.int (nI 0))) (g := s.2.2.1 6 rl.length) tp.length 0 (by omega)
  rw [List.take_zero, lf_nil, uW_same] at g3
  have hpre : ∀ Q, ae_wm (d + 6) mX11_rule [.ref q] (rh h q s) Q = ae_wp (d + 6) mX11_rule 121 [some (.ref q), some (.int (nI l)), some (.int (nI tp.length)), some (.int (nI 0)), some (.int (nI tp.length))] [] (rh h q (uI (uR (uR (uW s 6 rl.length (lf tp (s.2.2.1 6 rl.length))) 7 (upd (s.2.1 7) rl.length (nI l))) 8 (upd (s.2.1 8) rl.length (nI tp.length))) 5 (nI (rl.length + 1)))) Q := fun Q => by
    simp (disch := first | exact ae_isR_ref _ | exact ae_isR_null | exact ae_isR_rf _ | exact ae_cat_ref _ | exact ae_cat_int _ | exact ae_cat_null | exact ae_cat_rf _ | exact ae_nz0 | exact ae_nz1 | exact ae_fz0 | exact ae_fz1 | exact cI_na (by omega) | exact cI_ix (by omega) | exact cI_nn (by omega) | exact cI_nz (by omega) | exact cI_cp (by omega) | assumption | omega) only [s_X11_rule_0, s_X11_rule_1, s_X11_rule_2 rl_0, s_X11_rule_5, s_X11_rule_6, s_X11_rule_7, s_X11_rule_10, s_X11_rule_11, s_X11_rule_14, s_X11_rule_15, s_X11_rule_16 rl_0, s_X11_rule_19, s_X11_rule_20, s_X11_rule_21, s_X11_rule_24, s_X11_rule_25, s_X11_rule_28, s_X11_rule_29, s_X11_rule_30, s_X11_rule_33, s_X11_rule_36, s_X11_rule_38, s_X11_rule_41, s_X11_rule_42, s_X11_rule_43 rl_0, s_X11_rule_46, s_X11_rule_47, s_X11_rule_48, s_X11_rule_51, s_X11_rule_52, e_X11_rule, g3, s_X11_rule_88, s_X11_rule_89, s_X11_rule_92, s_X11_rule_93, s_X11_rule_96, s_X11_rule_97, s_X11_rule_98, s_X11_rule_99, s_X11_rule_102, s_X11_rule_103, s_X11_rule_106, s_X11_rule_107, s_X11_rule_110, s_X11_rule_111, s_X11_rule_112, s_X11_rule_113, s_X11_rule_116, s_X11_rule_117, s_X11_rule_118, rg_0, rg_1, rg_2, rg_3, rg_4, rg_5, rg_6, rg_7, rg_8, rg_9, rg_10, rg_11, rg_12, rg_13, rg_14, rg_15, rg_16, rg_17, rg_18, rg_19, rg_20, rg_21, rg_22, rg_23, rg_24, rg_25, rg_26, rg_27, rg_28, rg_29, rg_30, rg_31, rg_32, rg_33, rg_34, rg_35, rg_36, rg_37, rg_38, rg_39, rg_40, rg_41, rg_42, rg_43, rg_44, rg_45, rg_46, rg_47, rg_48, rg_49, rg_50, rg_51, rg_52, rp_0, rp_4, rp_5, rp_14, rp_15, rp_26, rp_29, rp_30, rp_31, rp_32, rp_33, rp_35, rp_36, rp_38, rp_39, rp_41, rp_42, rp_44, rp_45, rp_47, rp_51, rz_1, rs_1, rz_2, rs_2, rz_3, rs_3, rz_6, rzW_6, rsW_6, rz_7, rs_7, rz_8, rs_8, rz_9, rzW_9, rsW_9, rz_10, rs_10, rz_11, rs_11, rz_12, rs_12, rz_13, rs_13, rz_16, rs_16, rz_17, rs_17, rz_18, rs_18, rz_19, rs_19, rz_20, rs_20, rz_21, rzW_21, rsW_21, rz_22, rs_22, rz_23, rs_23, rz_24, rs_24, rz_25, rs_25, rz_27, rzW_27, rsW_27, rz_28, rs_28, rz_34, rs_34, rz_37, rs_37, rz_40, rs_40, rz_43, rs_43, rz_46, rs_46, rz_48, rs_48, rz_49, rs_49, rz_50, rs_50, rz_52, rs_52, uI_1, uI_2, uR_1, uR_21, uR_22, uW_1, uW_21, uW_22, uW_3, uJ_1, uJ_21, uJ_22, uJ_3, rh_2, va_rf, Bool.false_eq_true, ae_Ki, ae_Kb, ae_Kj, ae_Ka, ae_Si, ae_Sb, ae_Sj, ae_Sn, List.getElem?_cons_succ, List.getElem?_cons_zero, ↓reduceIte, if_true, if_false, nI_ofNat, true_or, or_true, false_or, or_false, true_and, and_true, false_and, and_false, or_self, and_self, not_true_eq_false, not_false_eq_true, eq_self, List.length_cons, List.length_nil, Nat.reduceAdd, Nat.reduceLT, Nat.reduceSub, List.set_cons_succ, List.set_cons_zero, Option.toList, List.nil_append, List.cons_append, cI_ltT, cI_ltF, cI_leT, cI_leF, cI_eqT, cI_eqF, cI_cl, cN_leT, cN_leF, cN_ltT, cN_ltF, cN_eqT, cN_eqF, cI_add, cI_sub, cI_m1a, cI_m1b, cI_m1c, cI_m1d, cI_m1e, cI_m1f, g0, g1, rdv, t1, g2, r1]
  generalize hsx : uI (uR (uR (uW s 6 rl.length (lf tp (s.2.2.1 6 rl.length))) 7 (upd (s.2.1 7) rl.length (nI l))) 8 (upd (s.2.1 8) rl.length (nI tp.length))) 5 (nI (rl.length + 1)) = sx at hpre
  have hfx : frm s sx [5] [7, 8] [6] := by
    rw [← hsx]
    refine ⟨fun t ht => ?_, fun t ht => ?_, fun t ht => ?_⟩
    · simp only [List.mem_cons, List.not_mem_nil, or_false] at ht
      simp [uI, uR, uW, ht]
    · simp only [List.mem_cons, List.not_mem_nil, or_false, not_or] at ht
      simp [uI, uR, uW, ht]
    · simp only [List.mem_cons, List.not_mem_nil, or_false] at ht
      simp [uI, uR, uW, ht]
  have hrx : rRules sx (rl ++ [(tp, l)]) := by
    rw [← hsx]
    refine ⟨by simp [uI], by simp; omega, fun r hr => ?_⟩
    by_cases c : r < rl.length
    · rw [rat_app1 c]
      have e : ¬ r = rl.length := by omega
      simpa [uI, uR, uW, upd, e] using r3 r c
    · have e : r = rl.length := by simp at hr; omega
      subst e
      rw [rat_app2]
      exact ⟨by simpa [uI, uR, uW] using lf_row tp _, by simp [uI, uR, uW, upd], by simp [uI, uR, uW, upd]⟩
  have hux : rU sx A ns (rl ++ [(tp, l)]) := ⟨by rw [hfx.2.1 2 (by decide)]; exact hA, hrx, by rw [hfx.1 0 (by decide)]; exact hns⟩
  have hgx := rgo_app hg (by omega) t3 (knw_kn1 k2) k1 k3
  have htx : sx.2.1 3 0 = nI (tp.getD 0 0) := by
    rw [hfx.2.1 3 (by decide)]
    exact t2 0 (by omega)
  obtain ⟨s2, y1, y2⟩ := m_X11_layTree (d := d) (h := h) (q := q) hux hgx hf
  have h5 : s2.1 5 = nI (rl.length + 1) := by
    rw [y1.1 5 (by decide), hrx.1]
    simp
  have hy : frm s s2 [4, 5, 14, 15, 51] [7, 8, 10, 12, 13, 16, 17, 18, 19, 20, 49, 50, 52] [6, 9] := frm_trans (frm_mono hfx (by simp) (by simp) (by simp)) (frm_mono y1 (by decide) (by decide) (by decide))
  have hr2 := (rU_frm y1 hux).2.1
  cases e : ltr A (rl ++ [(tp, l)]) ns (tp.getD 0 0) with
  | none =>
    rw [e] at y2
    refine ⟨uI (uI s2 5 (nI rl.length)) 4 (nI 0), fun Q => ?_, ⟨by simp [uI], r2, fun r hr => ?_⟩, by simp [uI], frm_trans hy ⟨fun t ht => ?_, fun _ _ => rfl, fun _ _ => rfl⟩⟩
    · rw [hpre]
      simp (disch := first | exact ae_isR_ref _ | exact ae_isR_null | exact ae_isR_rf _ | exact ae_cat_ref _ | exact ae_cat_int _ | exact ae_cat_null | exact ae_cat_rf _ | exact ae_nz0 | exact ae_nz1 | exact ae_fz0 | exact ae_fz1 | exact cI_na (by omega) | exact cI_ix (by omega) | exact cI_nn (by omega) | exact cI_nz (by omega) | exact cI_cp (by omega) | assumption | omega) only [s_X11_rule_121, s_X11_rule_122, s_X11_rule_123, s_X11_rule_126, s_X11_rule_127, s_X11_rule_128 rl_0, s_X11_rule_131, s_X11_rule_134, s_X11_rule_135, s_X11_rule_138, s_X11_rule_140, s_X11_rule_141, s_X11_rule_142, s_X11_rule_143, s_X11_rule_146, s_X11_rule_147, s_X11_rule_150, s_X11_rule_153, s_X11_rule_154, s_X11_rule_157, s_X11_rule_158, s_X11_rule_159, s_X11_rule_162, s_X11_rule_163, s_X11_rule_164, s_X11_rule_167, s_X11_rule_168, s_X11_rule_171, s_X11_rule_172, s_X11_rule_175, s_X11_rule_176, s_X11_rule_177, s_X11_rule_180, s_X11_rule_181, rg_0, rg_1, rg_2, rg_3, rg_4, rg_5, rg_6, rg_7, rg_8, rg_9, rg_10, rg_11, rg_12, rg_13, rg_14, rg_15, rg_16, rg_17, rg_18, rg_19, rg_20, rg_21, rg_22, rg_23, rg_24, rg_25, rg_26, rg_27, rg_28, rg_29, rg_30, rg_31, rg_32, rg_33, rg_34, rg_35, rg_36, rg_37, rg_38, rg_39, rg_40, rg_41, rg_42, rg_43, rg_44, rg_45, rg_46, rg_47, rg_48, rg_49, rg_50, rg_51, rg_52, rp_0, rp_4, rp_5, rp_14, rp_15, rp_26, rp_29, rp_30, rp_31, rp_32, rp_33, rp_35, rp_36, rp_38, rp_39, rp_41, rp_42, rp_44, rp_45, rp_47, rp_51, rz_1, rs_1, rz_2, rs_2, rz_3, rs_3, rz_6, rzW_6, rsW_6, rz_7, rs_7, rz_8, rs_8, rz_9, rzW_9, rsW_9, rz_10, rs_10, rz_11, rs_11, rz_12, rs_12, rz_13, rs_13, rz_16, rs_16, rz_17, rs_17, rz_18, rs_18, rz_19, rs_19, rz_20, rs_20, rz_21, rzW_21, rsW_21, rz_22, rs_22, rz_23, rs_23, rz_24, rs_24, rz_25, rs_25, rz_27, rzW_27, rsW_27, rz_28, rs_28, rz_34, rs_34, rz_37, rs_37, rz_40, rs_40, rz_43, rs_43, rz_46, rs_46, rz_48, rs_48, rz_49, rs_49, rz_50, rs_50, rz_52, rs_52, uI_1, uI_2, uR_1, uR_21, uR_22, uW_1, uW_21, uW_22, uW_3, uJ_1, uJ_21, uJ_22, uJ_3, rh_2, va_rf, Bool.false_eq_true, ae_Ki, ae_Kb, ae_Kj, ae_Ka, ae_Si, ae_Sb, ae_Sj, ae_Sn, List.getElem?_cons_succ, List.getElem?_cons_zero, ↓reduceIte, if_true, if_false, nI_ofNat, true_or, or_true, false_or, or_false, true_and, and_true, false_and, and_false, or_self, and_self, not_true_eq_false, not_false_eq_true, eq_self, List.length_cons, List.length_nil, Nat.reduceAdd, Nat.reduceLT, Nat.reduceSub, List.set_cons_succ, List.set_cons_zero, Option.toList, List.nil_append, List.cons_append, cI_ltT, cI_ltF, cI_leT, cI_leF, cI_eqT, cI_eqF, cI_cl, cN_leT, cN_leF, cN_ltT, cN_ltF, cN_eqT, cN_eqF, cI_add, cI_sub, cI_m1a, cI_m1b, cI_m1c, cI_m1d, cI_m1e, cI_m1f, htx, y2, h5, m19_0, Nat.add_sub_cancel]
    · have hr : r < rl.length := hr
      have := hr2.2.2 r (by simp; omega)
      rw [rat_app1 hr] at this
      exact this
    · simp only [List.mem_cons, List.not_mem_nil, or_false, not_or] at ht
      simp [uI, ht]
  | some L =>
    rw [e] at y2
    obtain ⟨y3, y4, y5⟩ := y2
    refine ⟨uI s2 4 (nI 0), fun Q => ?_, ⟨by simp [uI, h5], hr2.2.1, hr2.2.2⟩, by simp [uI], frm_trans hy ⟨fun t ht => ?_, fun _ _ => rfl, fun _ _ => rfl⟩⟩
    · rw [hpre]
      have e5 : uI s2 5 (nI (rl.length + 1)) = s2 := uI_same h5
      simp (disch := first | exact ae_isR_ref _ | exact ae_isR_null | exact ae_isR_rf _ | exact ae_cat_ref _ | exact ae_cat_int _ | exact ae_cat_null | exact ae_cat_rf _ | exact ae_nz0 | exact ae_nz1 | exact ae_fz0 | exact ae_fz1 | exact cI_na (by omega) | exact cI_ix (by omega) | exact cI_nn (by omega) | exact cI_nz (by omega) | exact cI_cp (by omega) | assumption | omega) only [s_X11_rule_121, s_X11_rule_122, s_X11_rule_123, s_X11_rule_126, s_X11_rule_127, s_X11_rule_128 rl_0, s_X11_rule_131, s_X11_rule_134, s_X11_rule_135, s_X11_rule_138, s_X11_rule_140, s_X11_rule_141, s_X11_rule_142, s_X11_rule_143, s_X11_rule_146, s_X11_rule_147, s_X11_rule_150, s_X11_rule_153, s_X11_rule_154, s_X11_rule_157, s_X11_rule_158, s_X11_rule_159, s_X11_rule_162, s_X11_rule_163, s_X11_rule_164, s_X11_rule_167, s_X11_rule_168, s_X11_rule_171, s_X11_rule_172, s_X11_rule_175, s_X11_rule_176, s_X11_rule_177, s_X11_rule_180, s_X11_rule_181, rg_0, rg_1, rg_2, rg_3, rg_4, rg_5, rg_6, rg_7, rg_8, rg_9, rg_10, rg_11, rg_12, rg_13, rg_14, rg_15, rg_16, rg_17, rg_18, rg_19, rg_20, rg_21, rg_22, rg_23, rg_24, rg_25, rg_26, rg_27, rg_28, rg_29, rg_30, rg_31, rg_32, rg_33, rg_34, rg_35, rg_36, rg_37, rg_38, rg_39, rg_40, rg_41, rg_42, rg_43, rg_44, rg_45, rg_46, rg_47, rg_48, rg_49, rg_50, rg_51, rg_52, rp_0, rp_4, rp_5, rp_14, rp_15, rp_26, rp_29, rp_30, rp_31, rp_32, rp_33, rp_35, rp_36, rp_38, rp_39, rp_41, rp_42, rp_44, rp_45, rp_47, rp_51, rz_1, rs_1, rz_2, rs_2, rz_3, rs_3, rz_6, rzW_6, rsW_6, rz_7, rs_7, rz_8, rs_8, rz_9, rzW_9, rsW_9, rz_10, rs_10, rz_11, rs_11, rz_12, rs_12, rz_13, rs_13, rz_16, rs_16, rz_17, rs_17, rz_18, rs_18, rz_19, rs_19, rz_20, rs_20, rz_21, rzW_21, rsW_21, rz_22, rs_22, rz_23, rs_23, rz_24, rs_24, rz_25, rs_25, rz_27, rzW_27, rsW_27, rz_28, rs_28, rz_34, rs_34, rz_37, rs_37, rz_40, rs_40, rz_43, rs_43, rz_46, rs_46, rz_48, rs_48, rz_49, rs_49, rz_50, rs_50, rz_52, rs_52, uI_1, uI_2, uR_1, uR_21, uR_22, uW_1, uW_21, uW_22, uW_3, uJ_1, uJ_21, uJ_22, uJ_3, rh_2, va_rf, Bool.false_eq_true, ae_Ki, ae_Kb, ae_Kj, ae_Ka, ae_Si, ae_Sb, ae_Sj, ae_Sn, List.getElem?_cons_succ, List.getElem?_cons_zero, ↓reduceIte, if_true, if_false, nI_ofNat, true_or, or_true, false_or, or_false, true_and, and_true, false_and, and_false, or_self, and_self, not_true_eq_false, not_false_eq_true, eq_self, List.length_cons, List.length_nil, Nat.reduceAdd, Nat.reduceLT, Nat.reduceSub, List.set_cons_succ, List.set_cons_zero, Option.toList, List.nil_append, List.cons_append, cI_ltT, cI_ltF, cI_leT, cI_leF, cI_eqT, cI_eqF, cI_cl, cN_leT, cN_leF, cN_ltT, cN_ltF, cN_eqT, cN_eqF, cI_add, cI_sub, cI_m1a, cI_m1b, cI_m1c, cI_m1d, cI_m1e, cI_m1f, htx, y3, h5, e5, Nat.add_sub_cancel]
    · simp only [List.mem_cons, List.not_mem_nil, or_false, not_or] at ht
      simp [uI, ht]
end REFS
