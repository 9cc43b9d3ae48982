/-! NarrowSolverModel: workOn -/
def wkm (A : Nat → Nat) (F : Nat → Bool) (rl : mR) (ns : Nat) (e a : List Nat) (mn fr : Nat) (v : sV) : Nat → Nat → List Nat → Int64 → sV
  | 0, _, _, _ => v
  | f + 1, at_, p, S => if S = 0 then flm v else if isl A rl p S = true then usm A e a mn fr v (rat rl (fsr S)) at_ else match bro A rl p S with
    | none => v
    | some k => if 100 ≤ e.getD ((loc A e p k at_).getD 0) 0 then ptm A e a mn fr (e.getD ((loc A e p k at_).getD 0) 0) v (chs A rl ns p k S) else if F (e.getD ((loc A e p k at_).getD 0) 0) = true then wkm A F rl ns e a mn fr v f ((loc A e p k at_).getD 0) (bgn A (e.getD ((loc A e p k at_).getD 0) 0)) (rof rl (e.getD ((loc A e p k at_).getD 0) 0)) else wkm A F rl ns e a mn fr v f at_ (kid A rl p k S (e.getD ((loc A e p k at_).getD 0) 0)).1 (kid A rl p k S (e.getD ((loc A e p k at_).getD 0) 0)).2
/-- the trees of all functions are there -/
def okT (A : Nat → Nat) (rl : mR) (ns : Nat) : Prop := ∀ f, f < ns → rof rl f ≠ 0 → tok A rl ns (bgn A f) (rof rl f)
theorem bgn_mtc {ns : Nat} {A : Nat → Nat} {e : List Nat} {i m : Nat} (hns : ns ≤ 24) (h : rn A (e.drop i) (m + 1) = some 0) (hf : e.getD i 0 < ns) : mtc A e (bgn A (e.getD i 0)) i := by
  obtain ⟨t1, t2, t3⟩ := te_args h
  refine ⟨t2, ?_⟩
  rw [if_neg (by omega)]
  exact ⟨rfl, mtc_rep _ _ m (by omega) t3⟩
section REFJ
variable {d : Nat} {Q : Option Value → ah_H → Prop} {h : ah_H} {q : Nat} {A : Nat → Nat} {ns : Nat} {rl : mR} {F : Nat → Bool} {e a : List Nat} {mn fr : Nat} {v : sV}
theorem m_X11_wk_loop (hg : rgo ns A rl) (hgu : rgu ns rl) (hok : okT A rl ns) (hw : wfq ns A (e, a, mn, fr)) : ∀ (f at_ : Nat) (p : List Nat) (S : Int64) (s : rS) (l1 l3 l7 l8 l9 : Option Value), 0 < f → (S ≠ 0 → wfp ns A rl p S ∧ tok A rl ns p S ∧ (e.length - at_) * 120 + (120 - (p.length - hol p)) + 1 < f) → at_ < e.length → mtc A e p at_ → rX s A F ns rl → rSv s v → rCur s e a mn fr → rPat s p → ∃ s2, (∀ Q, ae_wp (d + 5) mX11_workOn 27 [some (.ref q), l1, some (.int (nI at_)), l3, some (.long S), none, some (.int (nI p.length)), l7, l8, l9] [] (rh h q s) Q = Q none (rh h q s2)) ∧ rSv s2 (wkm A F rl ns e a mn fr v f at_ p S) ∧ frm s s2 SI SR SW := by
  obtain ⟨wl, wm⟩ := wfq_ans hw
  obtain ⟨w1, w2, w3, w4, w5, w6, w7⟩ := hw
  dsimp only at w1 w2 w3 w4 w5 w6 w7 wl wm
  have hac := rn_acm w3
  intro f
  induction f with
  | zero => intro at_ p S s l1 l3 l7 l8 l9 h0; omega
  | succ f ih =>
    intro at_ p S s l1 l3 l7 l8 l9 h0 hS hat hmt hx hv hcu hp
    have hx0 := hx
    obtain ⟨⟨hA, hr, hn⟩, hF⟩ := hx0
    have hns := hA.1
    have h99 := hA.2.2 99 (by omega)
    rw [wkm]
    by_cases c0 : S = 0
    · rw [if_pos c0]
      obtain ⟨f1, f2⟩ := flm_ok hv
      refine ⟨uI s 31 (s.1 31 + nI 1), fun Q => ?_, f1, frm_mono f2 (by decide) (by decide) (by decide)⟩
      simp (disch := first | exact ae_isR_ref _ | exact ae_isR_null | exact ae_isR_rf _ | exact ae_cat_ref _ | exact ae_cat_int _ | exact ae_cat_null | exact ae_cat_rf _ | exact ae_nz0 | exact ae_nz1 | exact ae_fz0 | exact ae_fz1 | exact cI_na (by omega) | exact cI_ix (by omega) | exact cI_nn (by omega) | exact cI_nz (by omega) | exact cI_cp (by omega) | assumption | omega) only [s_X11_workOn_27, s_X11_workOn_29, s_X11_workOn_30, s_X11_workOn_31, s_X11_workOn_185, s_X11_workOn_187, s_X11_workOn_188, s_X11_workOn_189, s_X11_workOn_192, s_X11_workOn_193, s_X11_workOn_194, s_X11_workOn_197, s_X11_workOn_198, s_X11_workOn_199, s_X11_workOn_202, rg_0, rg_1, rg_2, rg_3, rg_4, rg_5, rg_6, rg_7, rg_8, rg_9, rg_10, rg_11, rg_12, rg_13, rg_14, rg_15, rg_16, rg_17, rg_18, rg_19, rg_20, rg_21, rg_22, rg_23, rg_24, rg_25, rg_26, rg_27, rg_28, rg_29, rg_30, rg_31, rg_32, rg_33, rg_34, rg_35, rg_36, rg_37, rg_38, rg_39, rg_40, rg_41, rg_42, rg_43, rg_44, rg_45, rg_46, rg_47, rg_48, rg_49, rg_50, rg_51, rg_52, rp_0, rp_4, rp_5, rp_14, rp_15, rp_26, rp_29, rp_30, rp_31, rp_32, rp_33, rp_35, rp_36, rp_38, rp_39, rp_41, rp_42, rp_44, rp_45, rp_47, rp_51, rz_1, rs_1, rz_2, rs_2, rz_3, rs_3, rz_6, rzW_6, rsW_6, rz_7, rs_7, rz_8, rs_8, rz_9, rzW_9, rsW_9, rz_10, rs_10, rz_11, rs_11, rz_12, rs_12, rz_13, rs_13, rz_16, rs_16, rz_17, rs_17, rz_18, rs_18, rz_19, rs_19, rz_20, rs_20, rz_21, rzW_21, rsW_21, rz_22, rs_22, rz_23, rs_23, rz_24, rs_24, rz_25, rs_25, rz_27, rzW_27, rsW_27, rz_28, rs_28, rz_34, rs_34, rz_37, rs_37, rz_40, rs_40, rz_43, rs_43, rz_46, rs_46, rz_48, rs_48, rz_49, rs_49, rz_50, rs_50, rz_52, rs_52, uI_1, uI_2, uR_1, uR_21, uR_22, uW_1, uW_21, uW_22, uW_3, uJ_1, uJ_21, uJ_22, uJ_3, rh_2, va_rf, Bool.false_eq_true, ae_Ki, ae_Kb, ae_Kj, ae_Ka, ae_Si, ae_Sb, ae_Sj, ae_Sn, List.getElem?_cons_succ, List.getElem?_cons_zero, ↓reduceIte, if_true, if_false, nI_ofNat, true_or, or_true, false_or, or_false, true_and, and_true, false_and, and_false, or_self, and_self, not_true_eq_false, not_false_eq_true, eq_self, List.length_cons, List.length_nil, Nat.reduceAdd, Nat.reduceLT, Nat.reduceSub, List.set_cons_succ, List.set_cons_zero, Option.toList, List.nil_append, List.cons_append, cI_ltT, cI_ltF, cI_leT, cI_leF, cI_eqT, cI_eqF, cI_cl, cN_leT, cN_leF, cN_ltT, cN_ltF, cN_eqT, cN_eqF, cI_add, cI_sub, cI_m1a, cI_m1b, cI_m1c, cI_m1d, cI_m1e, cI_m1f, c0, cL_eq]
    · rw [if_neg c0]
      obtain ⟨hwp, htk, hms⟩ := hS c0
      obtain ⟨pl1, pl2⟩ := wfp_len hg hwp
      obtain ⟨r0, hr0, hm0, _⟩ := wfp_mem hwp
      have hwp0 := hwp
      obtain ⟨p1, p2, p3, p4, p5, p6⟩ := hwp0
      have gl := fun Q => m_X11_isLeaf (d := d) (Q := Q) (h := h) (q := q) hA hr (rgo_rgd hg) hp p4 hr0 hm0
      by_cases cl : isl A rl p S = true
      · rw [if_pos cl]
        obtain ⟨k1, k2, k3⟩ := leaf_hpl hns hA.2.2 hg hwp cl
        have gf := fun Q => m_X11_firstOf (d := d + 4) (Q := Q) (h := h) (q := q) (s := s) (by have := hg.1; omega : r0 < 64) hm0
        obtain ⟨s2, u1, u2, u3⟩ := m_X11_use (d := d + 2) (h := h) (q := q) (r := fsr S) (at_ := at_) hg hgu ⟨w1, w2, w3, w4, w5, w6, w7⟩ hx hv hcu k1 hat (by rw [k3]; exact hmt)
        refine ⟨s2, fun Q => ?_, u2, u3⟩
        simp (disch := first | exact ae_isR_ref _ | exact ae_isR_null | exact ae_isR_rf _ | exact ae_cat_ref _ | exact ae_cat_int _ | exact ae_cat_null | exact ae_cat_rf _ | exact ae_nz0 | exact ae_nz1 | exact ae_fz0 | exact ae_fz1 | exact cI_na (by omega) | exact cI_ix (by omega) | exact cI_nn (by omega) | exact cI_nz (by omega) | exact cI_cp (by omega) | assumption | omega) only [s_X11_workOn_27, s_X11_workOn_29, s_X11_workOn_30, s_X11_workOn_31, s_X11_workOn_34, s_X11_workOn_35, s_X11_workOn_37, s_X11_workOn_39 rl_0, s_X11_workOn_42, s_X11_workOn_185, s_X11_workOn_187, s_X11_workOn_188, s_X11_workOn_189, s_X11_workOn_192, s_X11_workOn_193, s_X11_workOn_194, s_X11_workOn_197, s_X11_workOn_198, s_X11_workOn_199, s_X11_workOn_202, s_X11_workOn_203, s_X11_workOn_204, s_X11_workOn_205, s_X11_workOn_207 rl_0, s_X11_workOn_210, s_X11_workOn_211 rl_0, s_X11_workOn_214, rg_0, rg_1, rg_2, rg_3, rg_4, rg_5, rg_6, rg_7, rg_8, rg_9, rg_10, rg_11, rg_12, rg_13, rg_14, rg_15, rg_16, rg_17, rg_18, rg_19, rg_20, rg_21, rg_22, rg_23, rg_24, rg_25, rg_26, rg_27, rg_28, rg_29, rg_30, rg_31, rg_32, rg_33, rg_34, rg_35, rg_36, rg_37, rg_38, rg_39, rg_40, rg_41, rg_42, rg_43, rg_44, rg_45, rg_46, rg_47, rg_48, rg_49, rg_50, rg_51, rg_52, rp_0, rp_4, rp_5, rp_14, rp_15, rp_26, rp_29, rp_30, rp_31, rp_32, rp_33, rp_35, rp_36, rp_38, rp_39, rp_41, rp_42, rp_44, rp_45, rp_47, rp_51, rz_1, rs_1, rz_2, rs_2, rz_3, rs_3, rz_6, rzW_6, rsW_6, rz_7, rs_7, rz_8, rs_8, rz_9, rzW_9, rsW_9, rz_10, rs_10, rz_11, rs_11, rz_12, rs_12, rz_13, rs_13, rz_16, rs_16, rz_17, rs_17, rz_18, rs_18, rz_19, rs_19, rz_20, rs_20, rz_21, rzW_21, rsW_21, rz_22, rs_22, rz_23, rs_23, rz_24, rs_24, rz_25, rs_25, rz_27, rzW_27, rsW_27, rz_28, rs_28, rz_34, rs_34, rz_37, rs_37, rz_40, rs_40, rz_43, rs_43, rz_46, rs_46, rz_48, rs_48, rz_49, rs_49, rz_50, rs_50, rz_52, rs_52, uI_1, uI_2, uR_1, uR_21, uR_22, uW_1, uW_21, uW_22, uW_3, uJ_1, uJ_21, uJ_22, uJ_3, rh_2, va_rf, Bool.false_eq_true, ae_Ki, ae_Kb, ae_Kj, ae_Ka, ae_Si, ae_Sb, ae_Sj, ae_Sn, List.getElem?_cons_succ, List.getElem?_cons_zero, ↓reduceIte, if_true, if_false, nI_ofNat, true_or, or_true, false_or, or_false, true_and, and_true, false_and, and_false, or_self, and_self, not_true_eq_false, not_false_eq_true, eq_self, List.length_cons, List.length_nil, Nat.reduceAdd, Nat.reduceLT, Nat.reduceSub, List.set_cons_succ, List.set_cons_zero, Option.toList, List.nil_append, List.cons_append, cI_ltT, cI_ltF, cI_leT, cI_leF, cI_eqT, cI_eqF, cI_cl, cN_leT, cN_leF, cN_ltT, cN_ltF, cN_eqT, cN_eqF, cI_add, cI_sub, cI_m1a, cI_m1b, cI_m1c, cI_m1d, cI_m1e, cI_m1f, c0, cL_eq, gl, cl, gf, u1]
      · rw [if_neg cl]
        obtain ⟨k, hb, h8, hkk⟩ := tok_kids htk cl
        obtain ⟨b1, b2, b3, b4, b5⟩ := bro_at (ns := ns) hb
        have hhp := hol_le p
        have gb := fun Q => m_X11_branchOf (d := d + 1) (Q := Q) (h := h) (q := q) hA hr (rgo_rgd hg) hp p4 hr0 hm0
        rw [hb] at gb ⊢
        dsimp only
        have hlo : loc A e p k at_ = some (wlk A e (p.take (jof p k)) at_) := by rw [loc_hix, b2]; rfl
        have gc := fun Q => m_X11_locate (d := d + 2) (Q := Q) (h := h) (q := q) (s := s) rl_52 rl_34 hA hp.1 hp.2.1 hp.2.2 (by decide) hcu.1.2.1 hcu.1.2.2 (by decide) (kn1_kno w1) hac hmt (by omega : k < 2147483648) (by omega)
        rw [hlo] at gc ⊢
        rw [Option.getD_some]
        obtain ⟨q1, q2⟩ := mtc_at hmt b3
        have q3 := wlk_adv _ _ (mtc_take (j := jof p k) hmt)
        have q4 : 0 < jof p k := by
          rcases Nat.eq_zero_or_pos (jof p k) with z | z
          · rw [z] at b4; exact absurd b4 p3
          · exact z
        rw [List.length_take, show min (jof p k) p.length = jof p k by omega] at q3
        generalize hsub : wlk A e (p.take (jof p k)) at_ = sub at *
        have ehd := hcu.1.2.1 sub q1
        have khd := w1 sub q1
        obtain ⟨m1, hm1⟩ : ∃ m1, rn A (e.drop sub) (m1 + 1) = some 0 := by
          obtain ⟨m, r1, r2⟩ := rn_drop sub _ w3 (by omega)
          exact ⟨m - 1, by rw [show m - 1 + 1 = m by have := r2 q1; omega]; exact r1⟩
        have hbg : e.getD sub 0 < ns → mtc A e (bgn A (e.getD sub 0)) sub := fun z => bgn_mtc hns hm1 z
        have hkm : e.getD sub 0 ≠ 99 → mtc A e (rfa A p (jof p k) (e.getD sub 0)) at_ := fun z => rfa_mtc hmt b3 b4 z (by rw [hsub]) (by rw [hsub]; exact hm1)
        generalize hhd : e.getD sub 0 = hd at *
        by_cases c1 : 100 ≤ hd
        · rw [if_pos c1]
          obtain ⟨s2, u1, u2, u3⟩ := m_X11_part (d := d) (h := h) (q := q) (x := hd) (rgo_rgd hg) ⟨w1, w2, w3, w4, w5, w6, w7⟩ p4 b1 (by omega) hx hv hcu hp
          refine ⟨s2, fun Q => ?_, u2, u3⟩
          simp (disch := first | exact ae_isR_ref _ | exact ae_isR_null | exact ae_isR_rf _ | exact ae_cat_ref _ | exact ae_cat_int _ | exact ae_cat_null | exact ae_cat_rf _ | exact ae_nz0 | exact ae_nz1 | exact ae_fz0 | exact ae_fz1 | exact cI_na (by omega) | exact cI_ix (by omega) | exact cI_nn (by omega) | exact cI_nz (by omega) | exact cI_cp (by omega) | assumption | omega) only [s_X11_workOn_27, s_X11_workOn_29, s_X11_workOn_30, s_X11_workOn_31, s_X11_workOn_34, s_X11_workOn_35, s_X11_workOn_37, s_X11_workOn_39 rl_0, s_X11_workOn_42, s_X11_workOn_45, s_X11_workOn_46, s_X11_workOn_47, s_X11_workOn_50, s_X11_workOn_52, s_X11_workOn_54 rl_0, s_X11_workOn_57, s_X11_workOn_59, s_X11_workOn_60, s_X11_workOn_61, s_X11_workOn_64, s_X11_workOn_66, s_X11_workOn_68, s_X11_workOn_69, s_X11_workOn_72, s_X11_workOn_73 rl_0, s_X11_workOn_76, s_X11_workOn_78, s_X11_workOn_79, s_X11_workOn_82, s_X11_workOn_84, s_X11_workOn_85, s_X11_workOn_87, s_X11_workOn_89, s_X11_workOn_91, s_X11_workOn_94, s_X11_workOn_95, s_X11_workOn_97, s_X11_workOn_99, s_X11_workOn_101, s_X11_workOn_103 rl_0, s_X11_workOn_106, rg_0, rg_1, rg_2, rg_3, rg_4, rg_5, rg_6, rg_7, rg_8, rg_9, rg_10, rg_11, rg_12, rg_13, rg_14, rg_15, rg_16, rg_17, rg_18, rg_19, rg_20, rg_21, rg_22, rg_23, rg_24, rg_25, rg_26, rg_27, rg_28, rg_29, rg_30, rg_31, rg_32, rg_33, rg_34, rg_35, rg_36, rg_37, rg_38, rg_39, rg_40, rg_41, rg_42, rg_43, rg_44, rg_45, rg_46, rg_47, rg_48, rg_49, rg_50, rg_51, rg_52, rp_0, rp_4, rp_5, rp_14, rp_15, rp_26, rp_29, rp_30, rp_31, rp_32, rp_33, rp_35, rp_36, rp_38, rp_39, rp_41, rp_42, rp_44, rp_45, rp_47, rp_51, rz_1, rs_1, rz_2, rs_2, rz_3, rs_3, rz_6, rzW_6, rsW_6, rz_7, rs_7, rz_8, rs_8, rz_9, rzW_9, rsW_9, rz_10, rs_10, rz_11, rs_11, rz_12, rs_12, rz_13, rs_13, rz_16, rs_16, rz_17, rs_17, rz_18, rs_18, rz_19, rs_19, rz_20, rs_20, rz_21, rzW_21, rsW_21, rz_22, rs_22, rz_23, rs_23, rz_24, rs_24, rz_25, rs_25, rz_27, rzW_27, rsW_27, rz_28, rs_28, rz_34, rs_34, rz_37, rs_37, rz_40, rs_40, rz_43, rs_43, rz_46, rs_46, rz_48, rs_48, rz_49, rs_49, rz_50, rs_50, rz_52, rs_52, uI_1, uI_2, uR_1, uR_21, uR_22, uW_1, uW_21, uW_22, uW_3, uJ_1, uJ_21, uJ_22, uJ_3, rh_2, va_rf, Bool.false_eq_true, ae_Ki, ae_Kb, ae_Kj, ae_Ka, ae_Si, ae_Sb, ae_Sj, ae_Sn, List.getElem?_cons_succ, List.getElem?_cons_zero, ↓reduceIte, if_true, if_false, nI_ofNat, true_or, or_true, false_or, or_false, true_and, and_true, false_and, and_false, or_self, and_self, not_true_eq_false, not_false_eq_true, eq_self, List.length_cons, List.length_nil, Nat.reduceAdd, Nat.reduceLT, Nat.reduceSub, List.set_cons_succ, List.set_cons_zero, Option.toList, List.nil_append, List.cons_append, cI_ltT, cI_ltF, cI_leT, cI_leF, cI_eqT, cI_eqF, cI_cl, cN_leT, cN_leF, cN_ltT, cN_ltF, cN_eqT, cN_eqF, cI_add, cI_sub, cI_m1a, cI_m1b, cI_m1c, cI_m1d, cI_m1e, cI_m1f, c0, cL_eq, gl, cl, gb, locv, gc, ehd, u1]
        · rw [if_neg c1]
          have hlt : hd < ns := by omega
          have h6 := hF.1 hd hlt
          by_cases c2 : F hd = true
          · rw [if_pos c2] at h6 ⊢
            have gr := fun Q => m_X11_rulesOf (d := d + 4) (Q := Q) (h := h) (q := q) (f := hd) (by omega) hr (rgo_rgd hg) hns
            obtain ⟨g', y1, y2⟩ := m_X11_begin (d := d + 4) (h := h) (q := q) (a2 := q + 206) (f := hd) (up := fun g => uR s 52 g) (g0 := s.2.1 52) (A := A) (ns := ns) (fun g => by rw [rl_52]; simp [uR]) (fun g g' => by rw [rs_52, uR_uR]) hA (fun _ => rfl) hlt
            rw [uR_same] at y1
            have hf1 := frm_mono (I2 := SI) (R2 := SR) (W2 := SW) (frm_uR s 52 g') (by decide) (by decide) (by decide)
            have hbl := bgn_len A hd
            have hbA := arl_le hA hd
            obtain ⟨s2, i1, i2, i3⟩ := ih sub (bgn A hd) (rof rl hd) (uR s 52 g') l1 (some (.int (nI hd))) (some (.int (nI k))) (some (.int (nI sub))) (some (.int (nI hd))) (by omega) (fun z => ⟨bgn_wfp h99 hns hg hlt z, hok hd hlt z, by rw [bgn_hol A (by omega)]; omega⟩) q1 (hbg hlt) (rX_frm hf1 hx) (rSv_frm (frm_uR s 52 g') (by decide) (by decide) (by decide) hv) (rCur_frm (frm_uR s 52 g') (by decide) (by decide) hcu) ⟨by simpa [uR] using y2, by omega, fun i hi => by
                cases i with
                | zero => show hd < 256; omega
                | succ i => rw [bgn_at (by omega)]; omega⟩
            refine ⟨s2, fun Q => ?_, i2, frm_trans hf1 i3⟩
            refine Eq.trans ?_ (s_X11_workOn_182.trans (i1 Q))
            rw [show (bgn A hd).length = 1 + A hd by omega]
            simp (disch := first | exact ae_isR_ref _ | exact ae_isR_null | exact ae_isR_rf _ | exact ae_cat_ref _ | exact ae_cat_int _ | exact ae_cat_null | exact ae_cat_rf _ | exact ae_nz0 | exact ae_nz1 | exact ae_fz0 | exact ae_fz1 | exact cI_na (by omega) | exact cI_ix (by omega) | exact cI_nn (by omega) | exact cI_nz (by omega) | exact cI_cp (by omega) | assumption | omega) only [s_X11_workOn_27, s_X11_workOn_29, s_X11_workOn_30, s_X11_workOn_31, s_X11_workOn_34, s_X11_workOn_35, s_X11_workOn_37, s_X11_workOn_39 rl_0, s_X11_workOn_42, s_X11_workOn_45, s_X11_workOn_46, s_X11_workOn_47, s_X11_workOn_50, s_X11_workOn_52, s_X11_workOn_54 rl_0, s_X11_workOn_57, s_X11_workOn_59, s_X11_workOn_60, s_X11_workOn_61, s_X11_workOn_64, s_X11_workOn_66, s_X11_workOn_68, s_X11_workOn_69, s_X11_workOn_72, s_X11_workOn_73 rl_0, s_X11_workOn_76, s_X11_workOn_78, s_X11_workOn_79, s_X11_workOn_82, s_X11_workOn_84, s_X11_workOn_85, s_X11_workOn_87, s_X11_workOn_89, s_X11_workOn_91, s_X11_workOn_94, s_X11_workOn_95, s_X11_workOn_97, s_X11_workOn_99, s_X11_workOn_101, s_X11_workOn_103 rl_0, s_X11_workOn_106, s_X11_workOn_107, s_X11_workOn_108, s_X11_workOn_111, s_X11_workOn_113, s_X11_workOn_114, s_X11_workOn_117, s_X11_workOn_119, s_X11_workOn_120, s_X11_workOn_122, s_X11_workOn_123, s_X11_workOn_124, s_X11_workOn_125 rl_0, s_X11_workOn_128, s_X11_workOn_130, s_X11_workOn_131, s_X11_workOn_132, s_X11_workOn_133, s_X11_workOn_136 rl_0, s_X11_workOn_139, s_X11_workOn_141, rg_0, rg_1, rg_2, rg_3, rg_4, rg_5, rg_6, rg_7, rg_8, rg_9, rg_10, rg_11, rg_12, rg_13, rg_14, rg_15, rg_16, rg_17, rg_18, rg_19, rg_20, rg_21, rg_22, rg_23, rg_24, rg_25, rg_26, rg_27, rg_28, rg_29, rg_30, rg_31, rg_32, rg_33, rg_34, rg_35, rg_36, rg_37, rg_38, rg_39, rg_40, rg_41, rg_42, rg_43, rg_44, rg_45, rg_46, rg_47, rg_48, rg_49, rg_50, rg_51, rg_52, rp_0, rp_4, rp_5, rp_14, rp_15, rp_26, rp_29, rp_30, rp_31, rp_32, rp_33, rp_35, rp_36, rp_38, rp_39, rp_41, rp_42, rp_44, rp_45, rp_47, rp_51, rz_1, rs_1, rz_2, rs_2, rz_3, rs_3, rz_6, rzW_6, rsW_6, rz_7, rs_7, rz_8, rs_8, rz_9, rzW_9, rsW_9, rz_10, rs_10, rz_11, rs_11, rz_12, rs_12, rz_13, rs_13, rz_16, rs_16, rz_17, rs_17, rz_18, rs_18, rz_19, rs_19, rz_20, rs_20, rz_21, rzW_21, rsW_21, rz_22, rs_22, rz_23, rs_23, rz_24, rs_24, rz_25, rs_25, rz_27, rzW_27, rsW_27, rz_28, rs_28, rz_34, rs_34, rz_37, rs_37, rz_40, rs_40, rz_43, rs_43, rz_46, rs_46, rz_48, rs_48, rz_49, rs_49, rz_50, rs_50, rz_52, rs_52, uI_1, uI_2, uR_1, uR_21, uR_22, uW_1, uW_21, uW_22, uW_3, uJ_1, uJ_21, uJ_22, uJ_3, rh_2, va_rf, Bool.false_eq_true, ae_Ki, ae_Kb, ae_Kj, ae_Ka, ae_Si, ae_Sb, ae_Sj, ae_Sn, List.getElem?_cons_succ, List.getElem?_cons_zero, ↓reduceIte, if_true, if_false, nI_ofNat, true_or, or_true, false_or, or_false, true_and, and_true, false_and, and_false, or_self, and_self, not_true_eq_false, not_false_eq_true, eq_self, List.length_cons, List.length_nil, Nat.reduceAdd, Nat.reduceLT, Nat.reduceSub, List.set_cons_succ, List.set_cons_zero, Option.toList, List.nil_append, List.cons_append, cI_ltT, cI_ltF, cI_leT, cI_leF, cI_eqT, cI_eqF, cI_cl, cN_leT, cN_leF, cN_ltT, cN_ltF, cN_eqT, cN_eqF, cI_add, cI_sub, cI_m1a, cI_m1b, cI_m1c, cI_m1d, cI_m1e, cI_m1f, c0, cL_eq, gl, cl, gb, locv, gc, ehd, h6, gr, y1]
          · rw [if_neg c2] at h6 ⊢
            have gw := fun Q => m_X11_withAt (d := d + 1) (Q := Q) (h := h) (q := q) (s := s) (c := hd) hA hr (rgo_rgd hg) hp p4 b1 (by omega) (by omega)
            obtain ⟨g', y1, y2⟩ := m_X11_refine (d := d + 4) (h := h) (q := q) (p := p) (a1 := q + 206) (a2 := q + 206) (j := jof p k) (k := k) (c := hd) (up := fun g => uR s 52 g) (src := fun g => g) (g0 := s.2.1 52) (A := A) (ns := ns) (fun g => by rw [rl_52]; simp [uR]) (fun g => by rw [rl_52]; simp [uR]) (fun g g' => by rw [rs_52, uR_uR]) (fun g y hy hg => by rw [hg]; exact hp.1 y hy) (by omega) hp.2.2 hA (fun _ => rfl) hlt (by omega) b2
            rw [uR_same] at y1
            have hf1 := frm_mono (I2 := SI) (R2 := SR) (W2 := SW) (frm_uR s 52 g') (by decide) (by decide) (by decide)
            have hbA := arl_le hA hd
            have hrl := rfa_len (A := A) (c := hd) b3
            have hrh := rfa_hol (A := A) b3 b4 (show hd ≠ 99 by omega)
            obtain ⟨s2, i1, i2, i3⟩ := ih at_ (kid A rl p k S hd).1 (kid A rl p k S hd).2 (uR s 52 g') l1 l3 (some (.int (nI k))) (some (.int (nI sub))) (some (.int (nI hd))) (by omega) (fun z => by
              have hcm : hd ∈ chs A rl ns p k S := List.mem_filter.mpr ⟨List.mem_range.mpr hlt, decide_eq_true z⟩
              have hwk := kid_wfp h99 hns hg hwp hb hlt z
              refine ⟨hwk, hkk hd hcm, ?_⟩
              have := (wfp_len hg hwk).2
              simp only [kid] at this ⊢
              omega) hat (hkm (by omega)) (rX_frm hf1 hx) (rSv_frm (frm_uR s 52 g') (by decide) (by decide) (by decide) hv) (rCur_frm (frm_uR s 52 g') (by decide) (by decide) hcu) ⟨by simpa [uR, kid] using y2, by simp only [kid]; omega, fun i hi => by
                simp only [kid] at hi ⊢
                rw [rfa_at b3]
                split
                · exact hp.2.2 i (by omega)
                · split
                  · omega
                  · split
                    · omega
                    · exact hp.2.2 _ (by omega)⟩
            refine ⟨s2, fun Q => ?_, i2, frm_trans hf1 i3⟩
            refine Eq.trans ?_ (s_X11_workOn_182.trans (i1 Q))
            rw [show (kid A rl p k S hd).1.length = p.length + A hd from hrl, show (kid A rl p k S hd).2 = wia A rl p k S hd from rfl]
            simp (disch := first | exact ae_isR_ref _ | exact ae_isR_null | exact ae_isR_rf _ | exact ae_cat_ref _ | exact ae_cat_int _ | exact ae_cat_null | exact ae_cat_rf _ | exact ae_nz0 | exact ae_nz1 | exact ae_fz0 | exact ae_fz1 | exact cI_na (by omega) | exact cI_ix (by omega) | exact cI_nn (by omega) | exact cI_nz (by omega) | exact cI_cp (by omega) | assumption | omega) only [s_X11_workOn_27, s_X11_workOn_29, s_X11_workOn_30, s_X11_workOn_31, s_X11_workOn_34, s_X11_workOn_35, s_X11_workOn_37, s_X11_workOn_39 rl_0, s_X11_workOn_42, s_X11_workOn_45, s_X11_workOn_46, s_X11_workOn_47, s_X11_workOn_50, s_X11_workOn_52, s_X11_workOn_54 rl_0, s_X11_workOn_57, s_X11_workOn_59, s_X11_workOn_60, s_X11_workOn_61, s_X11_workOn_64, s_X11_workOn_66, s_X11_workOn_68, s_X11_workOn_69, s_X11_workOn_72, s_X11_workOn_73 rl_0, s_X11_workOn_76, s_X11_workOn_78, s_X11_workOn_79, s_X11_workOn_82, s_X11_workOn_84, s_X11_workOn_85, s_X11_workOn_87, s_X11_workOn_89, s_X11_workOn_91, s_X11_workOn_94, s_X11_workOn_95, s_X11_workOn_97, s_X11_workOn_99, s_X11_workOn_101, s_X11_workOn_103 rl_0, s_X11_workOn_106, s_X11_workOn_107, s_X11_workOn_108, s_X11_workOn_111, s_X11_workOn_113, s_X11_workOn_114, s_X11_workOn_144, s_X11_workOn_145, s_X11_workOn_146, s_X11_workOn_149, s_X11_workOn_151, s_X11_workOn_153, s_X11_workOn_155, s_X11_workOn_157 rl_0, s_X11_workOn_160, s_X11_workOn_162, s_X11_workOn_163, s_X11_workOn_164, s_X11_workOn_167, s_X11_workOn_169, s_X11_workOn_171, s_X11_workOn_173, s_X11_workOn_174, s_X11_workOn_177 rl_0, s_X11_workOn_180, rg_0, rg_1, rg_2, rg_3, rg_4, rg_5, rg_6, rg_7, rg_8, rg_9, rg_10, rg_11, rg_12, rg_13, rg_14, rg_15, rg_16, rg_17, rg_18, rg_19, rg_20, rg_21, rg_22, rg_23, rg_24, rg_25, rg_26, rg_27, rg_28, rg_29, rg_30, rg_31, rg_32, rg_33, rg_34, rg_35, rg_36, rg_37, rg_38, rg_39, rg_40, rg_41, rg_42, rg_43, rg_44, rg_45, rg_46, rg_47, rg_48, rg_49, rg_50, rg_51, rg_52, rp_0, rp_4, rp_5, rp_14, rp_15, rp_26, rp_29, rp_30, rp_31, rp_32, rp_33, rp_35, rp_36, rp_38, rp_39, rp_41, rp_42, rp_44, rp_45, rp_47, rp_51, rz_1, rs_1, rz_2, rs_2, rz_3, rs_3, rz_6, rzW_6, rsW_6, rz_7, rs_7, rz_8, rs_8, rz_9, rzW_9, rsW_9, rz_10, rs_10, rz_11, rs_11, rz_12, rs_12, rz_13, rs_13, rz_16, rs_16, rz_17, rs_17, rz_18, rs_18, rz_19, rs_19, rz_20, rs_20, rz_21, rzW_21, rsW_21, rz_22, rs_22, rz_23, rs_23, rz_24, rs_24, rz_25, rs_25, rz_27, rzW_27, rsW_27, rz_28, rs_28, rz_34, rs_34, rz_37, rs_37, rz_40, rs_40, rz_43, rs_43, rz_46, rs_46, rz_48, rs_48, rz_49, rs_49, rz_50, rs_50, rz_52, rs_52, uI_1, uI_2, uR_1, uR_21, uR_22, uW_1, uW_21, uW_22, uW_3, uJ_1, uJ_21, uJ_22, uJ_3, rh_2, va_rf, Bool.false_eq_true, ae_Ki, ae_Kb, ae_Kj, ae_Ka, ae_Si, ae_Sb, ae_Sj, ae_Sn, List.getElem?_cons_succ, List.getElem?_cons_zero, ↓reduceIte, if_true, if_false, nI_ofNat, true_or, or_true, false_or, or_false, true_and, and_true, false_and, and_false, or_self, and_self, not_true_eq_false, not_false_eq_true, eq_self, List.length_cons, List.length_nil, Nat.reduceAdd, Nat.reduceLT, Nat.reduceSub, List.set_cons_succ, List.set_cons_zero, Option.toList, List.nil_append, List.cons_append, cI_ltT, cI_ltF, cI_leT, cI_leF, cI_eqT, cI_eqF, cI_cl, cN_leT, cN_leF, cN_ltT, cN_ltF, cN_eqT, cN_eqF, cI_add, cI_sub, cI_m1a, cI_m1b, cI_m1c, cI_m1d, cI_m1e, cI_m1f, c0, cL_eq, gl, cl, gb, locv, gc, ehd, h6, gw, y1]
theorem m_X11_workOn {s : rS} {at_ : Nat} (hg : rgo ns A rl) (hgu : rgu ns rl) (hok : okT A rl ns) (hw : wfq ns A (e, a, mn, fr)) (hat : at_ < e.length) (hlt : e.getD at_ 0 < ns) (hx : rX s A F ns rl) (hv : rSv s v) (hcu : rCur s e a mn fr) : ∃ s2, (∀ Q, ae_wm (d + 5) mX11_workOn [.ref q, .int (nI at_)] (rh h q s) Q = Q none (rh h q s2)) ∧ rSv s2 (wkm A F rl ns e a mn fr v 36000 at_ (bgn A (e.getD at_ 0)) (rof rl (e.getD at_ 0))) ∧ frm s s2 SI SR SW := by
  obtain ⟨wl, wm⟩ := wfq_ans hw
  have hx0 := hx
  obtain ⟨⟨hA, hr, hn⟩, hF⟩ := hx0
  have hns := hA.1
  have h99 := hA.2.2 99 (by omega)
  have ehd := hcu.1.2.1 at_ hat
  have w3 := hw.2.2.1
  dsimp only at wl wm w3
  obtain ⟨m1, hm1⟩ : ∃ m1, rn A (e.drop at_) (m1 + 1) = some 0 := by
    obtain ⟨m, r1, r2⟩ := rn_drop at_ _ w3 (by omega)
    exact ⟨m - 1, by rw [show m - 1 + 1 = m by have := r2 hat; omega]; exact r1⟩
  have hbm := bgn_mtc hns hm1 hlt
  generalize e.getD at_ 0 = hd at *
  have gr := fun Q => m_X11_rulesOf (d := d + 4) (Q := Q) (h := h) (q := q) (f := hd) (by omega) hr (rgo_rgd hg) hns
  obtain ⟨g', y1, y2⟩ := m_X11_begin (d := d + 4) (h := h) (q := q) (a2 := q + 206) (f := hd) (up := fun g => uR s 52 g) (g0 := s.2.1 52) (A := A) (ns := ns) (fun g => by rw [rl_52]; simp [uR]) (fun g g' => by rw [rs_52, uR_uR]) hA (fun _ => rfl) hlt
  rw [uR_same] at y1
  have hf1 := frm_mono (I2 := SI) (R2 := SR) (W2 := SW) (frm_uR s 52 g') (by decide) (by decide) (by decide)
  have hbl := bgn_len A hd
  have hbA := arl_le hA hd
  obtain ⟨s2, i1, i2, i3⟩ := m_X11_wk_loop (d := d) (h := h) (q := q) hg hgu hok hw 36000 at_ (bgn A hd) (rof rl hd) (uR s 52 g') (some (.int (nI at_))) (some (.int (nI hd))) none none none (by decide) (fun z => ⟨bgn_wfp h99 hns hg hlt z, hok hd hlt z, by rw [bgn_hol A (by omega)]; omega⟩) hat hbm (rX_frm hf1 hx) (rSv_frm (frm_uR s 52 g') (by decide) (by decide) (by decide) hv) (rCur_frm (frm_uR s 52 g') (by decide) (by decide) hcu) ⟨by simpa [uR] using y2, by omega, fun i hi => by
      cases i with
      | zero => show hd < 256; omega
      | succ i => rw [bgn_at (by omega)]; omega⟩
  refine ⟨s2, fun Q => ?_, i2, frm_trans hf1 i3⟩
  refine Eq.trans ?_ (i1 Q)
  rw [show (bgn A hd).length = 1 + A hd by omega]
  simp (disch := first | exact ae_isR_ref _ | exact ae_isR_null | exact ae_isR_rf _ | exact ae_cat_ref _ | exact ae_cat_int _ | exact ae_cat_null | exact ae_cat_rf _ | exact ae_nz0 | exact ae_nz1 | exact ae_fz0 | exact ae_fz1 | exact cI_na (by omega) | exact cI_ix (by omega) | exact cI_nn (by omega) | exact cI_nz (by omega) | exact cI_cp (by omega) | assumption | omega) only [s_X11_workOn_0, s_X11_workOn_1, s_X11_workOn_2, s_X11_workOn_3, s_X11_workOn_6, s_X11_workOn_7, s_X11_workOn_8, s_X11_workOn_9, s_X11_workOn_10, s_X11_workOn_11 rl_0, s_X11_workOn_14, s_X11_workOn_16, s_X11_workOn_17, s_X11_workOn_18, s_X11_workOn_19, s_X11_workOn_22 rl_0, s_X11_workOn_25, e_X11_workOn, rg_0, rg_1, rg_2, rg_3, rg_4, rg_5, rg_6, rg_7, rg_8, rg_9, rg_10, rg_11, rg_12, rg_13, rg_14, rg_15, rg_16, rg_17, rg_18, rg_19, rg_20, rg_21, rg_22, rg_23, rg_24, rg_25, rg_26, rg_27, rg_28, rg_29, rg_30, rg_31, rg_32, rg_33, rg_34, rg_35, rg_36, rg_37, rg_38, rg_39, rg_40, rg_41, rg_42, rg_43, rg_44, rg_45, rg_46, rg_47, rg_48, rg_49, rg_50, rg_51, rg_52, rp_0, rp_4, rp_5, rp_14, rp_15, rp_26, rp_29, rp_30, rp_31, rp_32, rp_33, rp_35, rp_36, rp_38, rp_39, rp_41, rp_42, rp_44, rp_45, rp_47, rp_51, rz_1, rs_1, rz_2, rs_2, rz_3, rs_3, rz_6, rzW_6, rsW_6, rz_7, rs_7, rz_8, rs_8, rz_9, rzW_9, rsW_9, rz_10, rs_10, rz_11, rs_11, rz_12, rs_12, rz_13, rs_13, rz_16, rs_16, rz_17, rs_17, rz_18, rs_18, rz_19, rs_19, rz_20, rs_20, rz_21, rzW_21, rsW_21, rz_22, rs_22, rz_23, rs_23, rz_24, rs_24, rz_25, rs_25, rz_27, rzW_27, rsW_27, rz_28, rs_28, rz_34, rs_34, rz_37, rs_37, rz_40, rs_40, rz_43, rs_43, rz_46, rs_46, rz_48, rs_48, rz_49, rs_49, rz_50, rs_50, rz_52, rs_52, uI_1, uI_2, uR_1, uR_21, uR_22, uW_1, uW_21, uW_22, uW_3, uJ_1, uJ_21, uJ_22, uJ_3, rh_2, va_rf, Bool.false_eq_true, ae_Ki, ae_Kb, ae_Kj, ae_Ka, ae_Si, ae_Sb, ae_Sj, ae_Sn, List.getElem?_cons_succ, List.getElem?_cons_zero, ↓reduceIte, if_true, if_false, nI_ofNat, true_or, or_true, false_or, or_false, true_and, and_true, false_and, and_false, or_self, and_self, not_true_eq_false, not_false_eq_true, eq_self, List.length_cons, List.length_nil, Nat.reduceAdd, Nat.reduceLT, Nat.reduceSub, List.set_cons_succ, List.set_cons_zero, Option.toList, List.nil_append, List.cons_append, cI_ltT, cI_ltF, cI_leT, cI_leF, cI_eqT, cI_eqF, cI_cl, cN_leT, cN_leF, cN_ltT, cN_ltF, cN_eqT, cN_eqF, cI_add, cI_sub, cI_m1a, cI_m1b, cI_m1c, cI_m1d, cI_m1e, cI_m1f, ehd, gr, y1]
end REFJ
