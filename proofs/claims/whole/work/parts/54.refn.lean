/-! NarrowSolverModel: layTree, node -/
def ltr (A : Nat → Nat) (rl : mR) (ns f : Nat) : Option (List nd) := if rof rl f = 0 then none else lay A rl ns 120 (bgn A f) (rof rl f) 0 (-1) 0
theorem bgn_wfp {ns : Nat} {A : Nat → Nat} {rl : mR} {f : Nat} (h99 : A 99 = 0) (hns : ns ≤ 24) (hg : rgo ns A rl) (hf : f < ns) (h0 : rof rl f ≠ 0) : wfp ns A rl (bgn A f) (rof rl f) := by
  refine ⟨?_, fun i hi => ?_, ?_, fun r hr hm => ?_, sub_rof hg.1, h0⟩
  · simp only [bgn, rn]
    rw [if_neg (by omega), show 1 + A f - 1 = A f by omega]
    exact rn_rep h99 _
  · cases i with
    | zero => exact Or.inl hf
    | succ i => exact Or.inr (bgn_at (by rw [bgn_len] at hi; omega))
  · show f ≠ 99
    omega
  · rw [mem_rof hg.1 (by have := hg.1; omega)] at hm
    simp only [Bool.and_eq_true, decide_eq_true_eq] at hm
    obtain ⟨h1, h2, h3, h4⟩ := hg.2 r hr
    obtain ⟨t1, t2, t3⟩ := te_args (A := A) (l := (rat rl r).1) (i := 0) (m := 1) (by simpa using h3)
    rw [hm.2] at t3
    refine ⟨t2, ?_⟩
    rw [if_neg (by omega)]
    exact ⟨hm.2, mtc_rep _ _ 1 (by omega) t3⟩
theorem bgn_hol (A : Nat → Nat) {f : Nat} (hf : f ≠ 99) : (bgn A f).length - hol (bgn A f) = 1 := by
  rw [bgn_len]
  simp only [bgn, hol, hol_rep, if_neg hf]
  omega
theorem ph_bgn {ns : Nat} {A : Nat → Nat} {rl : mR} {f : Nat} {S : Int64} (hf : f ≠ 99) (hg : rgo ns A rl) : ph A rl (bgn A f) S ≤ 4800 ∧ crd rl S ≤ 40 := by
  have h1 := hg.1
  constructor
  · unfold ph
    have := csm_bd (P := mem S) (g := fun r => (rat rl r).1.length + 1 - ((bgn A f).length - hol (bgn A f))) (b := 120) rl.length (fun r hr => by
      have := (hg.2 r hr).1
      rw [bgn_hol A hf]
      omega)
    have h2 : rl.length * 120 ≤ 40 * 120 := Nat.mul_le_mul_right _ h1
    omega
  · unfold crd
    have := csm_bd (P := mem S) (g := fun _ => 1) (b := 1) rl.length (fun r hr => Nat.le_refl _)
    omega
section REFN
variable {d : Nat} {Q : Option Value → ah_H → Prop} {h : ah_H} {q : Nat} {s : rS} {A : Nat → Nat} {ns : Nat} {rl : mR} {F : Nat → Bool}
theorem m_X11_layTree {f : Nat} (hu : rU s A ns rl) (hg : rgo ns A rl) (hf : f < ns) : ∃ s2, frm s s2 FI FR FW ∧ match ltr A rl ns f with
    | none => ∀ Q, ae_wm (d + 5) mX11_layTree [.ref q, .int (nI f)] (rh h q s) Q = Q (some (.int (nI 0))) (rh h q s2)
    | some L => (∀ Q, ae_wm (d + 5) mX11_layTree [.ref q, .int (nI f)] (rh h q s) Q = Q (some (.int (nI 1))) (rh h q s2)) ∧ s2.1 15 = nI L.length ∧ ∀ i, i < L.length → rNd s2 i (nat L i) := by
  have hns := hu.1.1
  have h99 := hu.1.2.2 99 (by omega)
  have hA3 := fun x => arl_le hu.1 x
  have hf1 : frm s (uI (uI s 15 (nI 0)) 14 (nI 0)) FI FR FW := ⟨fun t ht => by
    have : t ≠ 14 ∧ t ≠ 15 := ⟨fun e => ht (by rw [e]; decide), fun e => ht (by rw [e]; decide)⟩
    simp [uI, this], fun _ _ => rfl, fun _ _ => rfl⟩
  have hu1 := rU_frm hf1 hu
  have gr := fun Q => m_X11_rulesOf (d := d + 4) (Q := Q) (h := h) (q := q) (f := f) (by omega) hu1.2.1 (rgo_rgd hg) hns
  unfold ltr
  by_cases c : rof rl f = 0
  · rw [if_pos c]
    refine ⟨uI (uI s 15 (nI 0)) 14 (nI 0), hf1, fun Q => ?_⟩
    simp (disch := first | exact ae_isR_ref _ | exact ae_isR_null | exact ae_isR_rf _ | exact ae_cat_ref _ | exact ae_cat_int _ | exact ae_cat_null | exact ae_cat_rf _ | exact ae_nz0 | exact ae_nz1 | exact ae_fz0 | exact ae_fz1 | exact cI_na (by omega) | exact cI_ix (by omega) | exact cI_nn (by omega) | exact cI_nz (by omega) | exact cI_cp (by omega) | assumption | omega) only [s_X11_layTree_0, s_X11_layTree_1, s_X11_layTree_2, s_X11_layTree_5, s_X11_layTree_6, s_X11_layTree_7, s_X11_layTree_10, s_X11_layTree_11, s_X11_layTree_12 rl_0, s_X11_layTree_15, s_X11_layTree_16, s_X11_layTree_17, s_X11_layTree_18, s_X11_layTree_19, s_X11_layTree_22, s_X11_layTree_23, e_X11_layTree, rg_0, rg_1, rg_2, rg_3, rg_4, rg_5, rg_6, rg_7, rg_8, rg_9, rg_10, rg_11, rg_12, rg_13, rg_14, rg_15, rg_16, rg_17, rg_18, rg_19, rg_20, rg_21, rg_22, rg_23, rg_24, rg_25, rg_26, rg_27, rg_28, rg_29, rg_30, rg_31, rg_32, rg_33, rg_34, rg_35, rg_36, rg_37, rg_38, rg_39, rg_40, rg_41, rg_42, rg_43, rg_44, rg_45, rg_46, rg_47, rg_48, rg_49, rg_50, rg_51, rg_52, rp_0, rp_4, rp_5, rp_14, rp_15, rp_26, rp_29, rp_30, rp_31, rp_32, rp_33, rp_35, rp_36, rp_38, rp_39, rp_41, rp_42, rp_44, rp_45, rp_47, rp_51, rz_1, rs_1, rz_2, rs_2, rz_3, rs_3, rz_6, rzW_6, rsW_6, rz_7, rs_7, rz_8, rs_8, rz_9, rzW_9, rsW_9, rz_10, rs_10, rz_11, rs_11, rz_12, rs_12, rz_13, rs_13, rz_16, rs_16, rz_17, rs_17, rz_18, rs_18, rz_19, rs_19, rz_20, rs_20, rz_21, rzW_21, rsW_21, rz_22, rs_22, rz_23, rs_23, rz_24, rs_24, rz_25, rs_25, rz_27, rzW_27, rsW_27, rz_28, rs_28, rz_34, rs_34, rz_37, rs_37, rz_40, rs_40, rz_43, rs_43, rz_46, rs_46, rz_48, rs_48, rz_49, rs_49, rz_50, rs_50, rz_52, rs_52, uI_1, uI_2, uR_1, uR_21, uR_22, uW_1, uW_21, uW_22, uW_3, uJ_1, uJ_21, uJ_22, uJ_3, rh_2, va_rf, Bool.false_eq_true, ae_Ki, ae_Kb, ae_Kj, ae_Ka, ae_Si, ae_Sb, ae_Sj, ae_Sn, List.getElem?_cons_succ, List.getElem?_cons_zero, ↓reduceIte, if_true, if_false, nI_ofNat, true_or, or_true, false_or, or_false, true_and, and_true, false_and, and_false, or_self, and_self, not_true_eq_false, not_false_eq_true, eq_self, List.length_cons, List.length_nil, Nat.reduceAdd, Nat.reduceLT, Nat.reduceSub, List.set_cons_succ, List.set_cons_zero, Option.toList, List.nil_append, List.cons_append, cI_ltT, cI_ltF, cI_leT, cI_leF, cI_eqT, cI_eqF, cI_cl, cN_leT, cN_leF, cN_ltT, cN_ltF, cN_eqT, cN_eqF, cI_add, cI_sub, cI_m1a, cI_m1b, cI_m1c, cI_m1d, cI_m1e, cI_m1f, gr, c, cL_eq]
  · rw [if_neg c]
    have hw := bgn_wfp h99 hns hg hf c
    obtain ⟨g', b1, b2⟩ := m_X11_begin (d := d + 4) (h := h) (q := q) (a2 := q + 48 + 0) (f := f) (up := fun g => uW (uI (uI s 15 (nI 0)) 14 (nI 0)) 9 0 g) (g0 := s.2.2.1 9 0) (A := A) (ns := ns) (fun g => by rw [rlW_9 (by decide)]; simp [uW]) (fun g g' => by rw [rsW_9 (by decide), uW_uW]) hu1.1 (fun _ => rfl) hf
    rw [show uW (uI (uI s 15 (nI 0)) 14 (nI 0)) 9 0 (s.2.2.1 9 0) = uI (uI s 15 (nI 0)) 14 (nI 0) from uW_same (uI (uI s 15 (nI 0)) 14 (nI 0)) 9 0] at b1
    have gl := fun Q => m_X11_later (d := d + 4) (Q := Q) (h := h) (q := q) (s := uR (uW (uI (uI s 15 (nI 0)) 14 (nI 0)) 9 0 g') 10 (upd (s.2.1 10) 0 (nI (1 + A f)))) (m := 0) (f := nI f) (par := -1) (ord := nI 0) (S := rof rl f) rfl (by decide)
    generalize hsx : uI (uR (uR (uJ (uR (uW (uI (uI s 15 (nI 0)) 14 (nI 0)) 9 0 g') 10 (upd (s.2.1 10) 0 (nI (1 + A f)))) (vp_updL (uR (uW (uI (uI s 15 (nI 0)) 14 (nI 0)) 9 0 g') 10 (upd (s.2.1 10) 0 (nI (1 + A f)))).2.2.2 0 (rof rl f))) 12 (upd ((uR (uW (uI (uI s 15 (nI 0)) 14 (nI 0)) 9 0 g') 10 (upd (s.2.1 10) 0 (nI (1 + A f)))).2.1 12) 0 (-1))) 13 (upd ((uR (uW (uI (uI s 15 (nI 0)) 14 (nI 0)) 9 0 g') 10 (upd (s.2.1 10) 0 (nI (1 + A f)))).2.1 13) 0 (nI 0))) 14 (nI (0 + 1)) = sx at gl
    have hfx : frm s sx FI FR FW := by
      rw [← hsx]
      refine ⟨fun t ht => ?_, fun t ht => ?_, fun t ht => ?_⟩
      · have : t ≠ 14 ∧ t ≠ 15 := ⟨fun e => ht (by rw [e]; decide), fun e => ht (by rw [e]; decide)⟩
        simp [uI, uR, uJ, uW, this]
      · have : t ≠ 10 ∧ t ≠ 12 ∧ t ≠ 13 := ⟨fun e => ht (by rw [e]; decide), fun e => ht (by rw [e]; decide), fun e => ht (by rw [e]; decide)⟩
        simp [uI, uR, uJ, uW, this]
      · have : t ≠ 9 := fun e => ht (by rw [e]; decide)
        simp [uI, uR, uJ, uW, this]
    have hk : rSk sx 0 (bgn A f, rof rl f) (-1) 0 := by
      rw [← hsx]
      refine ⟨?_, ?_, ?_, ?_, ?_⟩
      · simpa [uI, uR, uJ, uW] using b2
      · simp [uI, uR, uJ, uW, upd, bgn_len, Nat.add_comm]
      · simp [uI, uR, uJ, uW, vp_updL]
      · simp [uI, uR, uJ, uW, upd]
      · simp [uI, uR, uJ, uW, upd]
    obtain ⟨p1, p2⟩ := ph_bgn (A := A) (f := f) (S := rof rl f) (by omega) hg
    obtain ⟨s2, y1, y2, y3, y4⟩ := m_X11_lt (d := d) (h := h) (q := q) (f0 := f) (S0 := rof rl f) hg hns (by omega) h99 hA3 120 (bgn A f) (rof rl f) 0 0 (-1) 0 sx hw (by rw [bgn_hol A (by omega)]; omega) (rU_frm hfx hu) (by rw [← hsx]; simp [uI]) (by rw [← hsx]; simp [uI, uR, uJ, uW]) hk (by omega) (by omega) (none, none, none, none, none, none)
    have hgo : ∀ Q, ae_wm (d + 5) mX11_layTree [.ref q, .int (nI f)] (rh h q s) Q = ae_wp (d + 5) mX11_layTree 49 (lcs q f (rof rl f) (none, none, none, none, none, none)) [] (rh h q sx) Q := fun Q => by
      simp (disch := first | exact ae_isR_ref _ | exact ae_isR_null | exact ae_isR_rf _ | exact ae_cat_ref _ | exact ae_cat_int _ | exact ae_cat_null | exact ae_cat_rf _ | exact ae_nz0 | exact ae_nz1 | exact ae_fz0 | exact ae_fz1 | exact cI_na (by omega) | exact cI_ix (by omega) | exact cI_nn (by omega) | exact cI_nz (by omega) | exact cI_cp (by omega) | assumption | omega) only [s_X11_layTree_0, s_X11_layTree_1, s_X11_layTree_2, s_X11_layTree_5, s_X11_layTree_6, s_X11_layTree_7, s_X11_layTree_10, s_X11_layTree_11, s_X11_layTree_12 rl_0, s_X11_layTree_15, s_X11_layTree_16, s_X11_layTree_17, s_X11_layTree_18, s_X11_layTree_19, s_X11_layTree_22, s_X11_layTree_23, s_X11_layTree_24, s_X11_layTree_25, s_X11_layTree_28, s_X11_layTree_29, s_X11_layTree_30, s_X11_layTree_31, s_X11_layTree_32, s_X11_layTree_35, s_X11_layTree_36, s_X11_layTree_37 rl_0, s_X11_layTree_40, s_X11_layTree_41, s_X11_layTree_42, s_X11_layTree_43, s_X11_layTree_44, s_X11_layTree_45, s_X11_layTree_46 rl_0, e_X11_layTree, rg_0, rg_1, rg_2, rg_3, rg_4, rg_5, rg_6, rg_7, rg_8, rg_9, rg_10, rg_11, rg_12, rg_13, rg_14, rg_15, rg_16, rg_17, rg_18, rg_19, rg_20, rg_21, rg_22, rg_23, rg_24, rg_25, rg_26, rg_27, rg_28, rg_29, rg_30, rg_31, rg_32, rg_33, rg_34, rg_35, rg_36, rg_37, rg_38, rg_39, rg_40, rg_41, rg_42, rg_43, rg_44, rg_45, rg_46, rg_47, rg_48, rg_49, rg_50, rg_51, rg_52, rp_0, rp_4, rp_5, rp_14, rp_15, rp_26, rp_29, rp_30, rp_31, rp_32, rp_33, rp_35, rp_36, rp_38, rp_39, rp_41, rp_42, rp_44, rp_45, rp_47, rp_51, rz_1, rs_1, rz_2, rs_2, rz_3, rs_3, rz_6, rzW_6, rsW_6, rz_7, rs_7, rz_8, rs_8, rz_9, rzW_9, rsW_9, rz_10, rs_10, rz_11, rs_11, rz_12, rs_12, rz_13, rs_13, rz_16, rs_16, rz_17, rs_17, rz_18, rs_18, rz_19, rs_19, rz_20, rs_20, rz_21, rzW_21, rsW_21, rz_22, rs_22, rz_23, rs_23, rz_24, rs_24, rz_25, rs_25, rz_27, rzW_27, rsW_27, rz_28, rs_28, rz_34, rs_34, rz_37, rs_37, rz_40, rs_40, rz_43, rs_43, rz_46, rs_46, rz_48, rs_48, rz_49, rs_49, rz_50, rs_50, rz_52, rs_52, uI_1, uI_2, uR_1, uR_21, uR_22, uW_1, uW_21, uW_22, uW_3, uJ_1, uJ_21, uJ_22, uJ_3, rh_2, va_rf, Bool.false_eq_true, ae_Ki, ae_Kb, ae_Kj, ae_Ka, ae_Si, ae_Sb, ae_Sj, ae_Sn, List.getElem?_cons_succ, List.getElem?_cons_zero, ↓reduceIte, if_true, if_false, nI_ofNat, true_or, or_true, false_or, or_false, true_and, and_true, false_and, and_false, or_self, and_self, not_true_eq_false, not_false_eq_true, eq_self, List.length_cons, List.length_nil, Nat.reduceAdd, Nat.reduceLT, Nat.reduceSub, List.set_cons_succ, List.set_cons_zero, Option.toList, List.nil_append, List.cons_append, cI_ltT, cI_ltF, cI_leT, cI_leF, cI_eqT, cI_eqF, cI_cl, cN_leT, cN_leF, cN_ltT, cN_ltF, cN_eqT, cN_eqF, cI_add, cI_sub, cI_m1a, cI_m1b, cI_m1c, cI_m1d, cI_m1e, cI_m1f, gr, c, cL_eq, b1, gl, lcs]
    refine ⟨s2, frm_trans hfx y1, ?_⟩
    cases e : lay A rl ns 120 (bgn A f) (rof rl f) 0 (-1) 0 with
    | none =>
      rw [e] at y4
      exact fun Q => (hgo Q).trans (y4 Q)
    | some L =>
      rw [e] at y4
      obtain ⟨z1, z2, z3, v2, z4⟩ := y4
      rw [Nat.zero_add] at z2
      refine ⟨fun Q => (hgo Q).trans ((z4 Q).trans ?_), z2, fun i hi => by have := z3 i hi; rwa [Nat.zero_add] at this⟩
      simp (disch := first | exact ae_isR_ref _ | exact ae_isR_null | exact ae_isR_rf _ | exact ae_cat_ref _ | exact ae_cat_int _ | exact ae_cat_null | exact ae_cat_rf _ | exact ae_nz0 | exact ae_nz1 | exact ae_fz0 | exact ae_fz1 | exact cI_na (by omega) | exact cI_ix (by omega) | exact cI_nn (by omega) | exact cI_nz (by omega) | exact cI_cp (by omega) | assumption | omega) only [lcs, s_X11_layTree_49, s_X11_layTree_50, s_X11_layTree_53, s_X11_layTree_288, s_X11_layTree_289, rg_0, rg_1, rg_2, rg_3, rg_4, rg_5, rg_6, rg_7, rg_8, rg_9, rg_10, rg_11, rg_12, rg_13, rg_14, rg_15, rg_16, rg_17, rg_18, rg_19, rg_20, rg_21, rg_22, rg_23, rg_24, rg_25, rg_26, rg_27, rg_28, rg_29, rg_30, rg_31, rg_32, rg_33, rg_34, rg_35, rg_36, rg_37, rg_38, rg_39, rg_40, rg_41, rg_42, rg_43, rg_44, rg_45, rg_46, rg_47, rg_48, rg_49, rg_50, rg_51, rg_52, rp_0, rp_4, rp_5, rp_14, rp_15, rp_26, rp_29, rp_30, rp_31, rp_32, rp_33, rp_35, rp_36, rp_38, rp_39, rp_41, rp_42, rp_44, rp_45, rp_47, rp_51, rz_1, rs_1, rz_2, rs_2, rz_3, rs_3, rz_6, rzW_6, rsW_6, rz_7, rs_7, rz_8, rs_8, rz_9, rzW_9, rsW_9, rz_10, rs_10, rz_11, rs_11, rz_12, rs_12, rz_13, rs_13, rz_16, rs_16, rz_17, rs_17, rz_18, rs_18, rz_19, rs_19, rz_20, rs_20, rz_21, rzW_21, rsW_21, rz_22, rs_22, rz_23, rs_23, rz_24, rs_24, rz_25, rs_25, rz_27, rzW_27, rsW_27, rz_28, rs_28, rz_34, rs_34, rz_37, rs_37, rz_40, rs_40, rz_43, rs_43, rz_46, rs_46, rz_48, rs_48, rz_49, rs_49, rz_50, rs_50, rz_52, rs_52, uI_1, uI_2, uR_1, uR_21, uR_22, uW_1, uW_21, uW_22, uW_3, uJ_1, uJ_21, uJ_22, uJ_3, rh_2, va_rf, Bool.false_eq_true, ae_Ki, ae_Kb, ae_Kj, ae_Ka, ae_Si, ae_Sb, ae_Sj, ae_Sn, List.getElem?_cons_succ, List.getElem?_cons_zero, ↓reduceIte, if_true, if_false, nI_ofNat, true_or, or_true, false_or, or_false, true_and, and_true, false_and, and_false, or_self, and_self, not_true_eq_false, not_false_eq_true, eq_self, List.length_cons, List.length_nil, Nat.reduceAdd, Nat.reduceLT, Nat.reduceSub, List.set_cons_succ, List.set_cons_zero, Option.toList, List.nil_append, List.cons_append, cI_ltT, cI_ltF, cI_leT, cI_leF, cI_eqT, cI_eqF, cI_cl, cN_leT, cN_leF, cN_ltT, cN_ltF, cN_eqT, cN_eqF, cI_add, cI_sub, cI_m1a, cI_m1b, cI_m1c, cI_m1d, cI_m1e, cI_m1f, z1]
end REFN
