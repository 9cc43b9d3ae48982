/-! NarrowSolverModel.problem, with the tape behind it -/
section REFK3
variable {d : Nat} {Q : Option Value → ah_H → Prop} {h : ah_H} {q : Nat} {s : rS} {A : Nat → Nat} {ns : Nat} {rl : mR} {F : Nat → Bool} {tp L T : List Nat} {v : sV}
theorem m_X11_problem2 (ht : rTape s tp) (hA : arl A ns (s.2.1 2)) (hn : s.1 0 = nI ns) : match prb A ns tp with
    | .inl f => ∀ Q, ae_wm (d + 3) mX11_problem [.ref q] (rh h q s) Q = Q (some (.int f)) (rh h q (uI s 4 (nI 0)))
    | .inr mn => ∃ s2, (∀ Q, ae_wm (d + 3) mX11_problem [.ref q] (rh h q s) Q = Q (some (.int (nI mn))) (rh h q s2)) ∧ rSv s2 (svb tp mn) ∧ frm s s2 [4, 26, 29, 30, 31, 32, 33, 41, 42, 44, 45] [22, 23, 24, 25, 28, 40, 43] [21, 27] ∧ s2.1 4 = nI 0 := by
  have t1 := ht.1
  have t3 := ht.2.2.1
  unfold prb
  cases e : prl A ns tp 121 0 0 with
  | inl f =>
    dsimp only
    intro Q
    obtain ⟨a2, t2, i1, i2⟩ := m_X11_pr_loop (d := d) (Q := Q) (h := h) (q := q) ht hA hn (l3 := none) (l4 := none) (l5 := none) 121 0 0 (by omega) (by omega) (by omega) (by omega)
    rw [e] at i1
    rcases i1 with ⟨j1, j2⟩ | ⟨j1, _⟩
    · cases j1
      simp (disch := first | exact ae_isR_ref _ | exact ae_isR_null | exact ae_isR_rf _ | exact ae_cat_ref _ | exact ae_cat_int _ | exact ae_cat_null | exact ae_cat_rf _ | exact ae_nz0 | exact ae_nz1 | exact ae_fz0 | exact ae_fz1 | exact cI_na (by omega) | exact cI_ix (by omega) | exact cI_nn (by omega) | exact cI_nz (by omega) | exact cI_cp (by omega) | assumption | omega) only [s_X11_problem_0, s_X11_problem_1, s_X11_problem_2, s_X11_problem_3, e_X11_problem, i2, s_X11_problem_28, s_X11_problem_29, s_X11_problem_32, s_X11_problem_33, s_X11_problem_36, s_X11_problem_37, s_X11_problem_38, s_X11_problem_39, s_X11_problem_40, s_X11_problem_43, s_X11_problem_45, s_X11_problem_48, s_X11_problem_49, s_X11_problem_50, s_X11_problem_51, s_X11_problem_54, s_X11_problem_56, s_X11_problem_57, s_X11_problem_58, s_X11_problem_61, s_X11_problem_62, s_X11_problem_65, s_X11_problem_66, rg_0, rg_1, rg_2, rg_3, rg_4, rg_5, rg_6, rg_7, rg_8, rg_9, rg_10, rg_11, rg_12, rg_13, rg_14, rg_15, rg_16, rg_17, rg_18, rg_19, rg_20, rg_21, rg_22, rg_23, rg_24, rg_25, rg_26, rg_27, rg_28, rg_29, rg_30, rg_31, rg_32, rg_33, rg_34, rg_35, rg_36, rg_37, rg_38, rg_39, rg_40, rg_41, rg_42, rg_43, rg_44, rg_45, rg_46, rg_47, rg_48, rg_49, rg_50, rg_51, rg_52, rp_0, rp_4, rp_5, rp_14, rp_15, rp_26, rp_29, rp_30, rp_31, rp_32, rp_33, rp_35, rp_36, rp_38, rp_39, rp_41, rp_42, rp_44, rp_45, rp_47, rp_51, rz_1, rs_1, rz_2, rs_2, rz_3, rs_3, rz_6, rzW_6, rsW_6, rz_7, rs_7, rz_8, rs_8, rz_9, rzW_9, rsW_9, rz_10, rs_10, rz_11, rs_11, rz_12, rs_12, rz_13, rs_13, rz_16, rs_16, rz_17, rs_17, rz_18, rs_18, rz_19, rs_19, rz_20, rs_20, rz_21, rzW_21, rsW_21, rz_22, rs_22, rz_23, rs_23, rz_24, rs_24, rz_25, rs_25, rz_27, rzW_27, rsW_27, rz_28, rs_28, rz_34, rs_34, rz_37, rs_37, rz_40, rs_40, rz_43, rs_43, rz_46, rs_46, rz_48, rs_48, rz_49, rs_49, rz_50, rs_50, rz_52, rs_52, uI_1, uI_2, uR_1, uR_21, uR_22, uW_1, uW_21, uW_22, uW_3, uJ_1, uJ_21, uJ_22, uJ_3, rh_2, va_rf, Bool.false_eq_true, ae_Ki, ae_Kb, ae_Kj, ae_Ka, ae_Si, ae_Sb, ae_Sj, ae_Sn, List.getElem?_cons_succ, List.getElem?_cons_zero, ↓reduceIte, if_true, if_false, nI_ofNat, true_or, or_true, false_or, or_false, true_and, and_true, false_and, and_false, or_self, and_self, not_true_eq_false, not_false_eq_true, eq_self, List.length_cons, List.length_nil, Nat.reduceAdd, Nat.reduceLT, Nat.reduceSub, List.set_cons_succ, List.set_cons_zero, Option.toList, List.nil_append, List.cons_append, cI_ltT, cI_ltF, cI_leT, cI_leF, cI_eqT, cI_eqF, cI_cl, cN_leT, cN_leF, cN_ltT, cN_ltF, cN_eqT, cN_eqF, cI_add, cI_sub, cI_m1a, cI_m1b, cI_m1c, cI_m1d, cI_m1e, cI_m1f, t1, ng_le j2, ng_ne j2]
    · cases j1
  | inr t =>
    dsimp only
    have hrn := (prl_inr 121 0 0 t (by omega) (by omega) e)
    have ht200 : t ≤ 200 := by omega
    have i2 : ∀ Q, ae_wp (d + 3) mX11_problem 4 [some (.ref q), some (.int (nI 0)), some (.int (nI 0)), none, none, none] [] (rh h q s) Q = ae_wp (d + 3) mX11_problem 28 [some (.ref q), some (.int (nI tp.length)), some (.int (nI t)), none, none, none] [] (rh h q s) Q := by
      intro Q
      obtain ⟨a2, t2, i1, i2⟩ := m_X11_pr_loop (d := d) (Q := Q) (h := h) (q := q) ht hA hn (l3 := none) (l4 := none) (l5 := none) 121 0 0 (by omega) (by omega) (by omega) (by omega)
      rw [e] at i1
      rcases i1 with ⟨j1, j2⟩ | ⟨j1, j2, j3⟩
      · cases j1
      · cases j1
        rw [i2, j2]
    obtain ⟨hh1, hh2⟩ := half_ok t (by omega)
    by_cases c : t % 2 = 1
    · rw [if_pos c]
      rw [c] at hh2
      intro Q
      simp (disch := first | exact ae_isR_ref _ | exact ae_isR_null | exact ae_isR_rf _ | exact ae_cat_ref _ | exact ae_cat_int _ | exact ae_cat_null | exact ae_cat_rf _ | exact ae_nz0 | exact ae_nz1 | exact ae_fz0 | exact ae_fz1 | exact cI_na (by omega) | exact cI_ix (by omega) | exact cI_nn (by omega) | exact cI_nz (by omega) | exact cI_cp (by omega) | assumption | omega) only [s_X11_problem_0, s_X11_problem_1, s_X11_problem_2, s_X11_problem_3, e_X11_problem, i2, s_X11_problem_28, s_X11_problem_29, s_X11_problem_32, s_X11_problem_33, s_X11_problem_36, s_X11_problem_37, s_X11_problem_38, s_X11_problem_39, s_X11_problem_40, s_X11_problem_43, s_X11_problem_45, s_X11_problem_48, s_X11_problem_49, s_X11_problem_50, s_X11_problem_51, s_X11_problem_54, s_X11_problem_56, s_X11_problem_57, s_X11_problem_58, s_X11_problem_61, s_X11_problem_62, s_X11_problem_65, s_X11_problem_66, rg_0, rg_1, rg_2, rg_3, rg_4, rg_5, rg_6, rg_7, rg_8, rg_9, rg_10, rg_11, rg_12, rg_13, rg_14, rg_15, rg_16, rg_17, rg_18, rg_19, rg_20, rg_21, rg_22, rg_23, rg_24, rg_25, rg_26, rg_27, rg_28, rg_29, rg_30, rg_31, rg_32, rg_33, rg_34, rg_35, rg_36, rg_37, rg_38, rg_39, rg_40, rg_41, rg_42, rg_43, rg_44, rg_45, rg_46, rg_47, rg_48, rg_49, rg_50, rg_51, rg_52, rp_0, rp_4, rp_5, rp_14, rp_15, rp_26, rp_29, rp_30, rp_31, rp_32, rp_33, rp_35, rp_36, rp_38, rp_39, rp_41, rp_42, rp_44, rp_45, rp_47, rp_51, rz_1, rs_1, rz_2, rs_2, rz_3, rs_3, rz_6, rzW_6, rsW_6, rz_7, rs_7, rz_8, rs_8, rz_9, rzW_9, rsW_9, rz_10, rs_10, rz_11, rs_11, rz_12, rs_12, rz_13, rs_13, rz_16, rs_16, rz_17, rs_17, rz_18, rs_18, rz_19, rs_19, rz_20, rs_20, rz_21, rzW_21, rsW_21, rz_22, rs_22, rz_23, rs_23, rz_24, rs_24, rz_25, rs_25, rz_27, rzW_27, rsW_27, rz_28, rs_28, rz_34, rs_34, rz_37, rs_37, rz_40, rs_40, rz_43, rs_43, rz_46, rs_46, rz_48, rs_48, rz_49, rs_49, rz_50, rs_50, rz_52, rs_52, uI_1, uI_2, uR_1, uR_21, uR_22, uW_1, uW_21, uW_22, uW_3, uJ_1, uJ_21, uJ_22, uJ_3, rh_2, va_rf, Bool.false_eq_true, ae_Ki, ae_Kb, ae_Kj, ae_Ka, ae_Si, ae_Sb, ae_Sj, ae_Sn, List.getElem?_cons_succ, List.getElem?_cons_zero, ↓reduceIte, if_true, if_false, nI_ofNat, true_or, or_true, false_or, or_false, true_and, and_true, false_and, and_false, or_self, and_self, not_true_eq_false, not_false_eq_true, eq_self, List.length_cons, List.length_nil, Nat.reduceAdd, Nat.reduceLT, Nat.reduceSub, List.set_cons_succ, List.set_cons_zero, Option.toList, List.nil_append, List.cons_append, cI_ltT, cI_ltF, cI_leT, cI_leF, cI_eqT, cI_eqF, cI_cl, cN_leT, cN_leF, cN_ltT, cN_ltF, cN_eqT, cN_eqF, cI_add, cI_sub, cI_m1a, cI_m1b, cI_m1c, cI_m1d, cI_m1e, cI_m1f, t1, hh1, hh2, m12_0]
    · rw [if_neg c]
      have c0 : t % 2 = 0 := by omega
      rw [c0] at hh2
      dsimp only
      generalize hmn : t / 2 = mn at hh1 hh2
      have hm200 : mn ≤ 200 := by omega
      have g1 := fun Q => m_X11_pr_give (d := d) (Q := Q) (h := h) (q := q) (tp := tp) (v0 := uI (rfg (uI s 4 (nI 0))) 42 (nI 0)) ht.2.1 t3 (l1 := some (.int (nI tp.length))) (l2 := some (.int (nI t))) (l3 := some (.int (nI 0))) tp.length 0 (by omega)
      rw [List.take_zero] at g1
      have g2 := fun Q => m_X11_pr_unk (d := d) (Q := Q) (h := h) (q := q) (v1 := nb (uI (uI (rfg (uI s 4 (nI 0))) 42 (nI 0)) 42 (nI mn)) tp []) (l1 := some (.int (nI tp.length))) (l2 := some (.int (nI t))) (l3 := some (.int (nI 0))) (l4 := some (.int (nI tp.length))) (g := (uI (uI (rfg (uI s 4 (nI 0))) 42 (nI 0)) 42 (nI mn)).2.1 43) 10 0 (by omega)
      rw [List.take_zero, lf_nil] at g2
      rw [show uR (nb (uI (uI (rfg (uI s 4 (nI 0))) 42 (nI 0)) 42 (nI mn)) tp []) 43 ((uI (uI (rfg (uI s 4 (nI 0))) 42 (nI 0)) 42 (nI mn)).2.1 43) = nb (uI (uI (rfg (uI s 4 (nI 0))) 42 (nI 0)) 42 (nI mn)) tp [] from uR_same (nb (uI (uI (rfg (uI s 4 (nI 0))) 42 (nI 0)) 42 (nI mn)) tp []) 43] at g2
      have g3 := nb_unk (uI (uI (rfg (uI s 4 (nI 0))) 42 (nI 0)) 42 (nI mn)) tp
      have hf0 : frm s (uI (uI (rfg (uI s 4 (nI 0))) 42 (nI 0)) 42 (nI mn)) [4, 26, 29, 30, 31, 32, 33, 42] [] [] := by
        refine ⟨fun k hk => ?_, fun _ _ => rfl, fun _ _ => rfl⟩
        simp only [List.mem_cons, List.not_mem_nil, or_false, not_or] at hk
        simp [rfg, uI, hk]
      generalize hv1 : uI (uI (rfg (uI s 4 (nI 0))) 42 (nI 0)) 42 (nI mn) = v1 at g2 g3 hf0
      have hsv : rSv v1 ([], [], nI 0, nI 0, nI 0, nI 0) := by
        rw [← hv1]
        exact ⟨⟨by simp [rfg, uI], by simp, fun j hj => by simp at hj⟩, ⟨by simp [rfg, uI], by simp, fun j hj => by simp at hj⟩, by simp [rfg, uI], by simp [rfg, uI], by simp [rfg, uI], by simp [rfg, uI]⟩
      obtain ⟨s2, k1, k2, k3⟩ := m_X11_keepM (d := d + 2) (h := h) (q := q) (L := tp) (T := unk) (nx := 10) (mn := mn) hsv (by rw [← hv1]; simp [uI]) (by omega) (by decide)
      refine ⟨nb s2 tp unk, fun Q => ?_, ?_, ?_, ?_⟩
      · have gb := fun Q => m_X11_beginNew (d := d + 2) (Q := Q) (h := h) (q := q) (s := rfg (uI s 4 (nI 0)))
        have e5 : uI (nb (uI (rfg (uI s 4 (nI 0))) 42 (nI 0)) tp []) 42 (nI mn) = nb v1 tp [] := by rw [nb_uI (by decide), hv1]
        simp (disch := first | exact ae_isR_ref _ | exact ae_isR_null | exact ae_isR_rf _ | exact ae_cat_ref _ | exact ae_cat_int _ | exact ae_cat_null | exact ae_cat_rf _ | exact ae_nz0 | exact ae_nz1 | exact ae_fz0 | exact ae_fz1 | exact cI_na (by omega) | exact cI_ix (by omega) | exact cI_nn (by omega) | exact cI_nz (by omega) | exact cI_cp (by omega) | assumption | omega) only [s_X11_problem_0, s_X11_problem_1, s_X11_problem_2, s_X11_problem_3, e_X11_problem, i2, s_X11_problem_28, s_X11_problem_29, s_X11_problem_32, s_X11_problem_33, s_X11_problem_36, s_X11_problem_37, s_X11_problem_38, s_X11_problem_39, s_X11_problem_40, s_X11_problem_43, s_X11_problem_45, s_X11_problem_48, s_X11_problem_49, s_X11_problem_50, s_X11_problem_51, s_X11_problem_54, s_X11_problem_56, s_X11_problem_57, s_X11_problem_58, s_X11_problem_61, s_X11_problem_62, s_X11_problem_65, s_X11_problem_66, s_X11_problem_67, s_X11_problem_68 rl_0, s_X11_problem_71, s_X11_problem_72 rl_0, s_X11_problem_75, s_X11_problem_76, g1, s_X11_problem_102, s_X11_problem_103, s_X11_problem_104, s_X11_problem_105, s_X11_problem_106, s_X11_problem_109, s_X11_problem_110, g2, s_X11_problem_137, s_X11_problem_138, s_X11_problem_140, s_X11_problem_143, s_X11_problem_144, s_X11_problem_146 rl_0, s_X11_problem_149, s_X11_problem_150, s_X11_problem_151, s_X11_problem_152, rg_0, rg_1, rg_2, rg_3, rg_4, rg_5, rg_6, rg_7, rg_8, rg_9, rg_10, rg_11, rg_12, rg_13, rg_14, rg_15, rg_16, rg_17, rg_18, rg_19, rg_20, rg_21, rg_22, rg_23, rg_24, rg_25, rg_26, rg_27, rg_28, rg_29, rg_30, rg_31, rg_32, rg_33, rg_34, rg_35, rg_36, rg_37, rg_38, rg_39, rg_40, rg_41, rg_42, rg_43, rg_44, rg_45, rg_46, rg_47, rg_48, rg_49, rg_50, rg_51, rg_52, rp_0, rp_4, rp_5, rp_14, rp_15, rp_26, rp_29, rp_30, rp_31, rp_32, rp_33, rp_35, rp_36, rp_38, rp_39, rp_41, rp_42, rp_44, rp_45, rp_47, rp_51, rz_1, rs_1, rz_2, rs_2, rz_3, rs_3, rz_6, rzW_6, rsW_6, rz_7, rs_7, rz_8, rs_8, rz_9, rzW_9, rsW_9, rz_10, rs_10, rz_11, rs_11, rz_12, rs_12, rz_13, rs_13, rz_16, rs_16, rz_17, rs_17, rz_18, rs_18, rz_19, rs_19, rz_20, rs_20, rz_21, rzW_21, rsW_21, rz_22, rs_22, rz_23, rs_23, rz_24, rs_24, rz_25, rs_25, rz_27, rzW_27, rsW_27, rz_28, rs_28, rz_34, rs_34, rz_37, rs_37, rz_40, rs_40, rz_43, rs_43, rz_46, rs_46, rz_48, rs_48, rz_49, rs_49, rz_50, rs_50, rz_52, rs_52, uI_1, uI_2, uR_1, uR_21, uR_22, uW_1, uW_21, uW_22, uW_3, uJ_1, uJ_21, uJ_22, uJ_3, rh_2, va_rf, Bool.false_eq_true, ae_Ki, ae_Kb, ae_Kj, ae_Ka, ae_Si, ae_Sb, ae_Sj, ae_Sn, List.getElem?_cons_succ, List.getElem?_cons_zero, ↓reduceIte, if_true, if_false, nI_ofNat, true_or, or_true, false_or, or_false, true_and, and_true, false_and, and_false, or_self, and_self, not_true_eq_false, not_false_eq_true, eq_self, List.length_cons, List.length_nil, Nat.reduceAdd, Nat.reduceLT, Nat.reduceSub, List.set_cons_succ, List.set_cons_zero, Option.toList, List.nil_append, List.cons_append, cI_ltT, cI_ltF, cI_leT, cI_leF, cI_eqT, cI_eqF, cI_cl, cN_leT, cN_leF, cN_ltT, cN_ltF, cN_eqT, cN_eqF, cI_add, cI_sub, cI_m1a, cI_m1b, cI_m1c, cI_m1d, cI_m1e, cI_m1f, t1, hh1, hh2, m_X11_forget, gb, e5, g3, k1]
      · refine rSv_frm (nb_frm s2 tp unk) (by decide) (by decide) (by decide) ?_
        have : kpm ([], [], nI 0, nI 0, nI 0, nI 0) tp unk mn 10 = svb tp mn := by
          unfold kpm svb
          rw [if_neg (by rw [unk_len]; simp; omega)]
          rfl
        rw [← this]
        exact k2
      · exact frm_trans (frm_mono hf0 (by simp) (by simp) (by simp)) (frm_trans (frm_mono k3 (by simp) (by simp) (by simp)) (frm_mono (nb_frm s2 tp unk) (by simp) (by simp) (by simp)))
      · rw [(nb_frm s2 tp unk).1 4 (by decide), k3.1 4 (by decide), ← hv1]
        simp [rfg, uI]
end REFK3
