/-! NarrowSolver$Solver: step -/
section STQ
variable {d : Nat} {Q : Option Value → ah_H → Prop} {G : ah_H} {x c p : Nat} {P : Nat → Option Nat} {y : rS} {fw : Nat} {v : sV} {e a : List Nat} {mn fr : Nat} {E : Nat → Prop} {A : Nat → Nat} {ns : Nat} {ar fn : Nat → Int32} {F : Nat → Bool} {rl : mR}
theorem pw_cur {h : ah_H} {c2 : Nat} {K : ah_H → Prop} (h15 : h.1 (x + 15) = some (.inr (6, of6 x c p y))) : ae_pw h (x + 15) 6 6 (.ref c2) K = K (ah_set h (x + 15) (.inr (6, of6 x c2 p y))) := by
  unfold ae_pw
  rw [h15]
  show (if 6 = 6 ∧ 6 < (of6 x c p y).length then _ else _) = _
  rw [if_pos ⟨rfl, of_decide_eq_true rfl⟩]
  rfl
/-- a step that fails is counted -/
theorem m_X6_st_fail {l1 : Option Value} (hS : cS G x P c p y fw v) : ∃ y2, (∀ Q, ae_wp d mX6_step 107 [some (.ref (x + 15)), l1, some (.int (nI 0))] [] G Q = Q none (ov G x c p y2)) ∧ cS (ov G x c p y2) x P c p y2 fw (flm v) ∧ frG G (ov G x c p y2) x P P 0 := by
  obtain ⟨p1, p2, p3, p4, p5⟩ := cS_p hS
  have hS0 := hS
  obtain ⟨s1, s2, s3, s4, s5, s6, s7, s8, s9⟩ := hS0
  obtain ⟨B, hB⟩ := s8
  obtain ⟨k1, k2⟩ := cS_y (y2 := uI y 10 (y.1 10 + nI 1)) (v2 := flm v) hS rfl rfl ⟨s7.1, by
    show (uI y 10 (y.1 10 + nI 1)).1 10 = _
    rw [uI_1, if_pos rfl, s7.2.1]
    rfl, s7.2.2.1, s7.2.2.2⟩ ⟨B, hB⟩
  refine ⟨uI y 10 (y.1 10 + nI 1), fun Q => ?_, k1, k2⟩
  have : ae_wp d mX6_step 107 [some (.ref (x + 15)), l1, some (.int (nI 0))] [] (ov G x c p y) Q = Q none (ov G x c p (uI y 10 (y.1 10 + nI 1))) := by
    simp (disch := first | exact ae_isR_ref _ | exact ae_isR_null | exact ae_isR_rf _ | exact ae_cat_ref _ | exact ae_cat_int _ | exact ae_cat_null | exact ae_cat_rf _ | exact ae_nz0 | exact ae_nz1 | exact ae_fz0 | exact ae_fz1 | exact cI_na (by omega) | exact cI_ix (by omega) | exact cI_nn (by omega) | exact cI_nz (by omega) | exact cI_cp (by omega) | assumption | omega) only [s_X6_step_107, s_X6_step_108, s_X6_step_111, s_X6_step_112, s_X6_step_113, s_X6_step_116, s_X6_step_117, s_X6_step_118, s_X6_step_121, og_0, og_1, og_2, og_3, og_4, og_5, og_6, og_7, og_8, og_9, og_10, og_11, og_12, op_6, op_8, op_9, op_10, op_11, op_12, dg_0, dg_1, dg_2, dg_3, dp_1, dp_2, dp_3, ng_b, ng_d, mz_m, ms_m, ov_2, nset_d, nset_b, uI_1, uI_2, uR_1, uR_21, uR_22, va_rf, Bool.false_eq_true, ae_Ki, ae_Kb, ae_Kj, ae_Ka, ae_Si, ae_Sb, ae_Sj, ae_Sn, List.getElem?_cons_succ, List.getElem?_cons_zero, ↓reduceIte, if_true, if_false, nI_ofNat, true_or, or_true, false_or, or_false, true_and, and_true, false_and, and_false, or_self, and_self, not_true_eq_false, not_false_eq_true, eq_self, List.length_cons, List.length_nil, Nat.reduceAdd, Nat.reduceLT, Nat.reduceSub, List.set_cons_succ, List.set_cons_zero, Option.toList, List.nil_append, List.cons_append, cI_ltT, cI_ltF, cI_leT, cI_leF, cI_eqT, cI_eqF, cI_cl, cN_leT, cN_leF, cN_ltT, cN_ltF, cN_eqT, cN_eqF, cI_add, cI_sub, cI_m1a, cI_m1b, cI_m1c, cI_m1d, cI_m1e, cI_m1f]
  rw [← s4] at this
  exact this
theorem m_X6_st_ok {l1 : Option Value} : ae_wp d mX6_step 107 [some (.ref (x + 15)), l1, some (.int (nI 1))] [] G Q = Q none G := by
  simp (disch := first | exact ae_isR_ref _ | exact ae_isR_null | exact ae_isR_rf _ | exact ae_cat_ref _ | exact ae_cat_int _ | exact ae_cat_null | exact ae_cat_rf _ | exact ae_nz0 | exact ae_nz1 | exact ae_fz0 | exact ae_fz1 | exact cI_na (by omega) | exact cI_ix (by omega) | exact cI_nn (by omega) | exact cI_nz (by omega) | exact cI_cp (by omega) | assumption | omega) only [s_X6_step_107, s_X6_step_108, s_X6_step_121, og_0, og_1, og_2, og_3, og_4, og_5, og_6, og_7, og_8, og_9, og_10, og_11, og_12, op_6, op_8, op_9, op_10, op_11, op_12, dg_0, dg_1, dg_2, dg_3, dp_1, dp_2, dp_3, ng_b, ng_d, mz_m, ms_m, ov_2, nset_d, nset_b, uI_1, uI_2, uR_1, uR_21, uR_22, va_rf, Bool.false_eq_true, ae_Ki, ae_Kb, ae_Kj, ae_Ka, ae_Si, ae_Sb, ae_Sj, ae_Sn, List.getElem?_cons_succ, List.getElem?_cons_zero, ↓reduceIte, if_true, if_false, nI_ofNat, true_or, or_true, false_or, or_false, true_and, and_true, false_and, and_false, or_self, and_self, not_true_eq_false, not_false_eq_true, eq_self, List.length_cons, List.length_nil, Nat.reduceAdd, Nat.reduceLT, Nat.reduceSub, List.set_cons_succ, List.set_cons_zero, Option.toList, List.nil_append, List.cons_append, cI_ltT, cI_ltF, cI_leT, cI_leF, cI_eqT, cI_eqF, cI_cl, cN_leT, cN_leF, cN_ltT, cN_ltF, cN_eqT, cN_eqF, cI_add, cI_sub, cI_m1a, cI_m1b, cI_m1c, cI_m1d, cI_m1e, cI_m1f]
theorem m_X6_step (hA : arl A ns ar) (hF : fnl F ns fn) (hEs : E (x + 1) ∧ E (x + 2) ∧ E (x + 3)) (hg : rgo ns A rl) (hgu : rgu ns rl) (hS : cS G x P c p y fw v) (hW : svW ns A v) (hw0 : 0 < v.1.length) (hs : sym G (x + 1) ns ar fn) (hd : dis E G x P) (hR : rlk E G x A ns rl) : ∃ G2 P2 c2 p2 y2 fw2 k, (∀ Q, ae_wm (d + 7) mX6_step [.ref (x + 15)] G Q = Q none G2) ∧ cS G2 x P2 c2 p2 y2 fw2 (stm A F rl ns (v.1.tail, v.2) (wat v.1 0)) ∧ frT G G2 x P P2 k := by
  obtain ⟨p1, p2, p3, p4, p5⟩ := cS_p hS
  have hS0 := hS
  obtain ⟨s1, s2, s3, s4, s5, s6, s7, s8, s9⟩ := hS0
  have hns := hA.1
  obtain ⟨c2, ⟨t1, t2⟩, t3, t4⟩ := cS_take hS hw0
  have hwq := hW.1 _ (wat_mem hw0)
  obtain ⟨i1, i2, i3, sz, ff, pc1, pc2, pc3⟩ := (s3.2 70 c s1).2.2
  have gT := fun Q => m_X3_takeFirst (d := d + 6) (Q := Q) (c := c) (a := c2) s5.1 (by decide) s5.2.1 (by have := s5.2.2.1; omega) pc1 (by
    show (if fw < 40 then P fw else none) = some c2
    rw [if_pos s5.2.1]; exact t1)
  have g15 : G.1 (x + 15) = some (.inr (6, of6 x c p y)) := by rw [s4]; exact ov_15
  have gC := fun K => pw_cur (c2 := c2) (K := K) (show (rset G (x + 16) 40 (va_up (fun i => if i < 40 then P i else none) fw (some c)) ((fw + 1) % 40) (v.1.length - 1)).1 (x + 15) = some (.inr (6, of6 x c p y)) by rw [rset_at (by omega) (by omega)]; exact g15)
  generalize hG1 : ah_set (rset G (x + 16) 40 (va_up (fun i => if i < 40 then P i else none) fw (some c)) ((fw + 1) % 40) (v.1.length - 1)) (x + 15) (.inr (6, of6 x c2 p y)) = G1 at *
  obtain ⟨d1, dE1⟩ := dis_frT t4 hd
  have hs1 := sym_cg dE1 hEs hs
  have hR1 := rlk_cg dE1 hR
  generalize wat v.1 0 = q at *
  obtain ⟨e, a, mn, fr⟩ := q
  obtain ⟨wl, wm⟩ := wfq_ans hwq
  have hwq0 := hwq
  obtain ⟨w1, w2, w3, w4, w5, w6, w7⟩ := hwq0
  dsimp only at w1 w2 w3 w4 w5 w6 w7 wl wm
  obtain ⟨u1, u2, u3, u4, u5⟩ := rn_te (A := A) (l := e) (i := 0) (m := 2 * mn - 1) (by rw [List.drop_zero, show 2 * mn - 1 + 1 = 2 * mn by omega]; exact w3)
  have u6 : te A e 0 < e.length := by
    have := rn_len _ _ _ u5
    rw [List.length_drop] at this
    omega
  have k0 := w1 0 (by omega)
  have k1 := w1 (te A e 0) u6
  obtain ⟨B, hB⟩ := s8
  have hs4' := t3.2.2.2.1
  have hcnt := t3.2.2.2.2.2.2.1
  obtain ⟨v1, v2⟩ := cS_y (y2 := uI y 9 (y.1 9 + nI 1)) (v2 := (v.1.tail, v.2.1, v.2.2.1 + nI 1, v.2.2.2)) t3 rfl rfl ⟨by
    show (uI y 9 (y.1 9 + nI 1)).1 9 = _
    rw [uI_1, if_pos rfl, hcnt.1], hcnt.2.1, hcnt.2.2.1, hcnt.2.2.2⟩ ⟨B, hB⟩
  obtain ⟨g0, hcu⟩ := cur_of t3 t2
  have hp := hcu.1
  have hcl := hcu.2.2.2.2.2.2
  have hcr := hcu.2.2.2.2.2.1
  have hll : (e ++ a).length = e.length + a.length := List.length_append
  have hsml : sml (e ++ a) := fun i hi => by
    have := kn1_app w1 w2 i hi
    omega
  have hso := sym_ov (c := c2) (y := uI y 9 (y.1 9 + nI 1)) hp hs1
  have gE := fun Q => m_X7_endOfTerm (d := d + 5) (Q := Q) (i := 0) hso hA (cu_n (y := uI y 9 (y.1 9 + nI 1)) hcu) (by omega) hcl hcr hsml (by omega)
  rw [te_app u3] at gE
  have gA0 := fun Q => m_X1_at_l (d := d + 6) (Q := Q) (i := 0) (cu_n (y := uI y 9 (y.1 9 + nI 1)) hcu) (by omega) hcr (by omega) hcl
  rw [getD_app1 (by omega)] at gA0
  have gA1 := fun Q => m_X1_at_l (d := d + 6) (Q := Q) (i := te A e 0) (cu_n (y := uI y 9 (y.1 9 + nI 1)) hcu) (by omega) hcr (by omega) hcl
  rw [getD_app1 u6] at gA1
  have gF0 := fun Q => m_X7_isFunction (d := d + 6) (Q := Q) (v := e.getD 0 0) hso hns (by omega) hF
  have gF1 := fun Q => m_X7_isFunction (d := d + 6) (Q := Q) (v := e.getD (te A e 0) 0) hso hns (by omega) hF
  have hfT := frT_trans t4 (frT_of v2)
  have hFn : ∀ z, F z = true → z < ns := fun z hz => by
    rcases Nat.lt_or_ge z ns with w | w
    · exact w
    · rw [hF.2 _ w] at hz; cases hz
  have o2 : ∀ K, ae_gw G (x + 15) 6 2 K = K (.ref (x + 16)) := fun K => by unfold ae_gw; rw [g15]; rfl
  have o6 : ∀ K, ae_gw G (x + 15) 6 6 K = K (.ref c) := fun K => by unfold ae_gw; rw [g15]; rfl
  have hpre : ∀ Q, ae_wm (d + 7) mX6_step [.ref (x + 15)] G Q = ae_wp (d + 7) mX6_step 41 [some (.ref (x + 15)), some (.int (nI (te A e 0))), none] [] (ov G1 x c2 p (uI y 9 (y.1 9 + nI 1))) Q := fun Q => by
    have hx : ∀ Q, ae_wp (d + 7) mX6_step 15 [some (.ref (x + 15)), none, none] [] (ov G1 x c2 p y) Q = ae_wp (d + 7) mX6_step 41 [some (.ref (x + 15)), some (.int (nI (te A e 0))), none] [] (ov G1 x c2 p (uI y 9 (y.1 9 + nI 1))) Q := fun Q => by
      simp (disch := first | exact ae_isR_ref _ | exact ae_isR_null | exact ae_isR_rf _ | exact ae_cat_ref _ | exact ae_cat_int _ | exact ae_cat_null | exact ae_cat_rf _ | exact ae_nz0 | exact ae_nz1 | exact ae_fz0 | exact ae_fz1 | exact cI_na (by omega) | exact cI_ix (by omega) | exact cI_nn (by omega) | exact cI_nz (by omega) | exact cI_cp (by omega) | assumption | omega) only [s_X6_step_15, s_X6_step_16, s_X6_step_17, s_X6_step_20, s_X6_step_21, s_X6_step_22, s_X6_step_25, s_X6_step_26, s_X6_step_29, s_X6_step_30, s_X6_step_33, s_X6_step_36, s_X6_step_37 hso.1, s_X6_step_40, og_0, og_1, og_2, og_3, og_4, og_5, og_6, og_7, og_8, og_9, og_10, og_11, og_12, op_6, op_8, op_9, op_10, op_11, op_12, dg_0, dg_1, dg_2, dg_3, dp_1, dp_2, dp_3, ng_b, ng_d, mz_m, ms_m, ov_2, nset_d, nset_b, uI_1, uI_2, uR_1, uR_21, uR_22, va_rf, Bool.false_eq_true, ae_Ki, ae_Kb, ae_Kj, ae_Ka, ae_Si, ae_Sb, ae_Sj, ae_Sn, List.getElem?_cons_succ, List.getElem?_cons_zero, ↓reduceIte, if_true, if_false, nI_ofNat, true_or, or_true, false_or, or_false, true_and, and_true, false_and, and_false, or_self, and_self, not_true_eq_false, not_false_eq_true, eq_self, List.length_cons, List.length_nil, Nat.reduceAdd, Nat.reduceLT, Nat.reduceSub, List.set_cons_succ, List.set_cons_zero, Option.toList, List.nil_append, List.cons_append, cI_ltT, cI_ltF, cI_leT, cI_leF, cI_eqT, cI_eqF, cI_cl, cN_leT, cN_leF, cN_ltT, cN_ltF, cN_eqT, cN_eqF, cI_add, cI_sub, cI_m1a, cI_m1b, cI_m1c, cI_m1d, cI_m1e, cI_m1f, cg_0 hcu, gE]
    have hy : ae_wm (d + 7) mX6_step [.ref (x + 15)] G Q = ae_wp (d + 7) mX6_step 15 [some (.ref (x + 15)), none, none] [] G1 Q := by
      simp (disch := first | exact ae_isR_ref _ | exact ae_isR_null | exact ae_isR_rf _ | exact ae_cat_ref _ | exact ae_cat_int _ | exact ae_cat_null | exact ae_cat_rf _ | exact ae_nz0 | exact ae_nz1 | exact ae_fz0 | exact ae_fz1 | exact cI_na (by omega) | exact cI_ix (by omega) | exact cI_nn (by omega) | exact cI_nz (by omega) | exact cI_cp (by omega) | assumption | omega) only [s_X6_step_0, s_X6_step_1, s_X6_step_2, s_X6_step_5, s_X6_step_6, s_X6_step_9 s5.1.1, s_X6_step_12, e_X6_step, og_0, og_1, og_2, og_3, og_4, og_5, og_6, og_7, og_8, og_9, og_10, og_11, og_12, op_6, op_8, op_9, op_10, op_11, op_12, dg_0, dg_1, dg_2, dg_3, dp_1, dp_2, dp_3, ng_b, ng_d, mz_m, ms_m, ov_2, nset_d, nset_b, uI_1, uI_2, uR_1, uR_21, uR_22, va_rf, Bool.false_eq_true, ae_Ki, ae_Kb, ae_Kj, ae_Ka, ae_Si, ae_Sb, ae_Sj, ae_Sn, List.getElem?_cons_succ, List.getElem?_cons_zero, ↓reduceIte, if_true, if_false, nI_ofNat, true_or, or_true, false_or, or_false, true_and, and_true, false_and, and_false, or_self, and_self, not_true_eq_false, not_false_eq_true, eq_self, List.length_cons, List.length_nil, Nat.reduceAdd, Nat.reduceLT, Nat.reduceSub, List.set_cons_succ, List.set_cons_zero, Option.toList, List.nil_append, List.cons_append, cI_ltT, cI_ltF, cI_leT, cI_leF, cI_eqT, cI_eqF, cI_cl, cN_leT, cN_leF, cN_ltT, cN_ltF, cN_eqT, cN_eqF, cI_add, cI_sub, cI_m1a, cI_m1b, cI_m1c, cI_m1d, cI_m1e, cI_m1f, o2, o6, gT, gC, hG1]
    rw [hy]
    have := hx Q
    rw [← hs4'] at this
    exact this
  have hprb2 := prbk_fr t3 v2 t2
  obtain ⟨d2, dE2⟩ := dis_fr v2 d1
  have hs2 := sym_cg dE2 hEs hs1
  have hR2 := rlk_cg dE2 hR1
  have hv4 := v1.2.2.2.1
  rw [stm_unf]
  dsimp only
  by_cases c0 : F (e.getD 0 0) = true
  · rw [if_pos c0] at gF0 ⊢
    obtain ⟨b, G3, P3, p3', y3, k3, z1, z2, z3⟩ := m_X6_workOn (d := d) hA hF hEs hwq hg hgu v1 hprb2 hs2 d2 hR2 (at_ := 0) (by omega) (hFn _ c0)
    rw [← hv4] at z1
    have hgo : ∀ Q, ae_wm (d + 7) mX6_step [.ref (x + 15)] G Q = ae_wp (d + 7) mX6_step 107 [some (.ref (x + 15)), some (.int (nI (te A e 0))), some (.int b)] [] G3 Q := fun Q => by
      rw [hpre]
      simp (disch := first | exact ae_isR_ref _ | exact ae_isR_null | exact ae_isR_rf _ | exact ae_cat_ref _ | exact ae_cat_int _ | exact ae_cat_null | exact ae_cat_rf _ | exact ae_nz0 | exact ae_nz1 | exact ae_fz0 | exact ae_fz1 | exact cI_na (by omega) | exact cI_ix (by omega) | exact cI_nn (by omega) | exact cI_nz (by omega) | exact cI_cp (by omega) | assumption | omega) only [s_X6_step_41, s_X6_step_42, s_X6_step_45, s_X6_step_46, s_X6_step_49, s_X6_step_52, s_X6_step_53 (cu_n hcu).1, s_X6_step_56 hso.1, s_X6_step_59, s_X6_step_62, s_X6_step_63, s_X6_step_64 ov_15, s_X6_step_67, s_X6_step_68, og_0, og_1, og_2, og_3, og_4, og_5, og_6, og_7, og_8, og_9, og_10, og_11, og_12, op_6, op_8, op_9, op_10, op_11, op_12, dg_0, dg_1, dg_2, dg_3, dp_1, dp_2, dp_3, ng_b, ng_d, mz_m, ms_m, ov_2, nset_d, nset_b, uI_1, uI_2, uR_1, uR_21, uR_22, va_rf, Bool.false_eq_true, ae_Ki, ae_Kb, ae_Kj, ae_Ka, ae_Si, ae_Sb, ae_Sj, ae_Sn, List.getElem?_cons_succ, List.getElem?_cons_zero, ↓reduceIte, if_true, if_false, nI_ofNat, true_or, or_true, false_or, or_false, true_and, and_true, false_and, and_false, or_self, and_self, not_true_eq_false, not_false_eq_true, eq_self, List.length_cons, List.length_nil, Nat.reduceAdd, Nat.reduceLT, Nat.reduceSub, List.set_cons_succ, List.set_cons_zero, Option.toList, List.nil_append, List.cons_append, cI_ltT, cI_ltF, cI_leT, cI_leF, cI_eqT, cI_eqF, cI_cl, cN_leT, cN_leF, cN_ltT, cN_ltF, cN_eqT, cN_eqF, cI_add, cI_sub, cI_m1a, cI_m1b, cI_m1c, cI_m1d, cI_m1e, cI_m1f, cg_0 hcu, gA0, gF0, z1]
    rcases z3 with ⟨b1, b2⟩ | ⟨b1, b2, b3⟩
    · subst b1
      exact ⟨G3, P3, c2, p3', y3, (fw + 1) % 40, _, fun Q => (hgo Q).trans m_X6_st_ok, b2, frT_trans hfT (frT_of z2)⟩
    · subst b1
      obtain ⟨y4, m1, m2, m3⟩ := m_X6_st_fail (d := d + 7) (l1 := some (.int (nI (te A e 0)))) b2
      refine ⟨_, P3, c2, p3', y4, (fw + 1) % 40, _, fun Q => (hgo Q).trans (m1 Q), ?_, frT_trans (frT_trans hfT (frT_of z2)) (frT_of m3)⟩
      rw [b3]; exact m2
  · rw [if_neg c0] at gF0 ⊢
    by_cases c1 : F (e.getD (te A e 0) 0) = true
    · rw [if_pos c1] at gF1 ⊢
      obtain ⟨b, G3, P3, p3', y3, k3, z1, z2, z3⟩ := m_X6_workOn (d := d) hA hF hEs hwq hg hgu v1 hprb2 hs2 d2 hR2 (at_ := te A e 0) u6 (hFn _ c1)
      rw [← hv4] at z1
      have hgo : ∀ Q, ae_wm (d + 7) mX6_step [.ref (x + 15)] G Q = ae_wp (d + 7) mX6_step 107 [some (.ref (x + 15)), some (.int (nI (te A e 0))), some (.int b)] [] G3 Q := fun Q => by
        rw [hpre]
        simp (disch := first | exact ae_isR_ref _ | exact ae_isR_null | exact ae_isR_rf _ | exact ae_cat_ref _ | exact ae_cat_int _ | exact ae_cat_null | exact ae_cat_rf _ | exact ae_nz0 | exact ae_nz1 | exact ae_fz0 | exact ae_fz1 | exact cI_na (by omega) | exact cI_ix (by omega) | exact cI_nn (by omega) | exact cI_nz (by omega) | exact cI_cp (by omega) | assumption | omega) only [s_X6_step_41, s_X6_step_42, s_X6_step_45, s_X6_step_46, s_X6_step_49, s_X6_step_52, s_X6_step_53 (cu_n hcu).1, s_X6_step_56 hso.1, s_X6_step_59, s_X6_step_71, s_X6_step_72, s_X6_step_75, s_X6_step_76, s_X6_step_79, s_X6_step_82, s_X6_step_83 (cu_n hcu).1, s_X6_step_86 hso.1, s_X6_step_89, s_X6_step_92, s_X6_step_93, s_X6_step_94 ov_15, s_X6_step_97, s_X6_step_98, og_0, og_1, og_2, og_3, og_4, og_5, og_6, og_7, og_8, og_9, og_10, og_11, og_12, op_6, op_8, op_9, op_10, op_11, op_12, dg_0, dg_1, dg_2, dg_3, dp_1, dp_2, dp_3, ng_b, ng_d, mz_m, ms_m, ov_2, nset_d, nset_b, uI_1, uI_2, uR_1, uR_21, uR_22, va_rf, Bool.false_eq_true, ae_Ki, ae_Kb, ae_Kj, ae_Ka, ae_Si, ae_Sb, ae_Sj, ae_Sn, List.getElem?_cons_succ, List.getElem?_cons_zero, ↓reduceIte, if_true, if_false, nI_ofNat, true_or, or_true, false_or, or_false, true_and, and_true, false_and, and_false, or_self, and_self, not_true_eq_false, not_false_eq_true, eq_self, List.length_cons, List.length_nil, Nat.reduceAdd, Nat.reduceLT, Nat.reduceSub, List.set_cons_succ, List.set_cons_zero, Option.toList, List.nil_append, List.cons_append, cI_ltT, cI_ltF, cI_leT, cI_leF, cI_eqT, cI_eqF, cI_cl, cN_leT, cN_leF, cN_ltT, cN_ltF, cN_eqT, cN_eqF, cI_add, cI_sub, cI_m1a, cI_m1b, cI_m1c, cI_m1d, cI_m1e, cI_m1f, cg_0 hcu, gA0, gF0, gA1, gF1, z1]
      rcases z3 with ⟨b1, b2⟩ | ⟨b1, b2, b3⟩
      · subst b1
        exact ⟨G3, P3, c2, p3', y3, (fw + 1) % 40, _, fun Q => (hgo Q).trans m_X6_st_ok, b2, frT_trans hfT (frT_of z2)⟩
      · subst b1
        obtain ⟨y4, m1, m2, m3⟩ := m_X6_st_fail (d := d + 7) (l1 := some (.int (nI (te A e 0)))) b2
        refine ⟨_, P3, c2, p3', y4, (fw + 1) % 40, _, fun Q => (hgo Q).trans (m1 Q), ?_, frT_trans (frT_trans hfT (frT_of z2)) (frT_of m3)⟩
        rw [b3]; exact m2
    · rw [if_neg c1] at gF1 ⊢
      have hnt : F (e.getD (te A e 0) 0) = false := by simpa using c1
      obtain ⟨L0, hL0⟩ := dr_any (uI y 9 (y.1 9 + nI 1))
      obtain ⟨y2, f1, f2⟩ := m_X6_unify_pre (d := d + 1) (H := G1) (y := uI y 9 (y.1 9 + nI 1)) (B := B) hcu hs1 hA hF hwq hL0 ⟨hB.1, hB.2.1, hB.2.2⟩ hnt
      have hyc : ∀ i, i = 9 ∨ i = 10 ∨ i = 11 ∨ i = 12 → y2.1 i = (uI y 9 (y.1 9 + nI 1)).1 i := fun i hi => by
        rcases hi with z | z | z | z <;> subst z <;> rw [f1.1 _ (by decide)]
      have hcn := v1.2.2.2.2.2.2.1
      have hmk : (∃ B2, bd y2 B2) → cS (ov G1 x c2 p y2) x (fun i => P (tau fw i)) c2 p y2 ((fw + 1) % 40) (v.1.tail, v.2.1, v.2.2.1 + nI 1, v.2.2.2) ∧ frG G1 (ov G1 x c2 p y2) x (fun i => P (tau fw i)) (fun i => P (tau fw i)) 0 := fun hb => cS_y t3 rfl rfl ⟨by rw [hyc 9 (by simp)]; exact hcn.1, by rw [hyc 10 (by simp)]; exact hcn.2.1, by rw [hyc 11 (by simp)]; exact hcn.2.2.1, by rw [hyc 12 (by simp)]; exact hcn.2.2.2⟩ hb
      rcases f2 with ⟨z1, z2, z3, z4⟩ | ⟨L, T, mn2, nx, x2, x3, x4, z1, z2, z3, z4⟩
      · obtain ⟨h1, h2⟩ := hmk z3
        obtain ⟨y4, m1, m2, m3⟩ := m_X6_st_fail (d := d + 7) (l1 := some (.int (nI (te A e 0)))) h1
        refine ⟨_, _, c2, p, y4, (fw + 1) % 40, _, fun Q => ?_, ?_, frT_trans (frT_trans t4 (frT_of h2)) (frT_of m3)⟩
        · rw [hpre]
          refine Eq.trans ?_ (m1 Q)
          simp (disch := first | exact ae_isR_ref _ | exact ae_isR_null | exact ae_isR_rf _ | exact ae_cat_ref _ | exact ae_cat_int _ | exact ae_cat_null | exact ae_cat_rf _ | exact ae_nz0 | exact ae_nz1 | exact ae_fz0 | exact ae_fz1 | exact cI_na (by omega) | exact cI_ix (by omega) | exact cI_nn (by omega) | exact cI_nz (by omega) | exact cI_cp (by omega) | assumption | omega) only [s_X6_step_41, s_X6_step_42, s_X6_step_45, s_X6_step_46, s_X6_step_49, s_X6_step_52, s_X6_step_53 (cu_n hcu).1, s_X6_step_56 hso.1, s_X6_step_59, s_X6_step_71, s_X6_step_72, s_X6_step_75, s_X6_step_76, s_X6_step_79, s_X6_step_82, s_X6_step_83 (cu_n hcu).1, s_X6_step_86 hso.1, s_X6_step_89, s_X6_step_101, s_X6_step_102, s_X6_step_103 ov_15, s_X6_step_106, og_0, og_1, og_2, og_3, og_4, og_5, og_6, og_7, og_8, og_9, og_10, og_11, og_12, op_6, op_8, op_9, op_10, op_11, op_12, dg_0, dg_1, dg_2, dg_3, dp_1, dp_2, dp_3, ng_b, ng_d, mz_m, ms_m, ov_2, nset_d, nset_b, uI_1, uI_2, uR_1, uR_21, uR_22, va_rf, Bool.false_eq_true, ae_Ki, ae_Kb, ae_Kj, ae_Ka, ae_Si, ae_Sb, ae_Sj, ae_Sn, List.getElem?_cons_succ, List.getElem?_cons_zero, ↓reduceIte, if_true, if_false, nI_ofNat, true_or, or_true, false_or, or_false, true_and, and_true, false_and, and_false, or_self, and_self, not_true_eq_false, not_false_eq_true, eq_self, List.length_cons, List.length_nil, Nat.reduceAdd, Nat.reduceLT, Nat.reduceSub, List.set_cons_succ, List.set_cons_zero, Option.toList, List.nil_append, List.cons_append, cI_ltT, cI_ltF, cI_leT, cI_leF, cI_eqT, cI_eqF, cI_cl, cN_leT, cN_leF, cN_ltT, cN_ltF, cN_eqT, cN_eqF, cI_add, cI_sub, cI_m1a, cI_m1b, cI_m1c, cI_m1d, cI_m1e, cI_m1f, cg_0 hcu, gA0, gF0, gA1, gF1, z1]
        · rw [z4]; exact m2
      · obtain ⟨h1, h2⟩ := hmk z3
        obtain ⟨z2, hkb⟩ := z2
        obtain ⟨G4, P4, p4', y4, k4, j1, j2, j3⟩ := m_X6_deliver (d := d + 2) h1 z2 hkb.2.1 hkb.1 hkb.2.2.1 hkb.2.2.2
        refine ⟨G4, P4, c2, p4', y4, (fw + 1) % 40, _, fun Q => ?_, ?_, frT_trans (frT_trans t4 (frT_of h2)) (frT_of j3)⟩
        · rw [hpre]
          refine Eq.trans ?_ (m_X6_st_ok (d := d + 7) (x := x) (G := G4) (l1 := some (.int (nI (te A e 0)))))
          simp (disch := first | exact ae_isR_ref _ | exact ae_isR_null | exact ae_isR_rf _ | exact ae_cat_ref _ | exact ae_cat_int _ | exact ae_cat_null | exact ae_cat_rf _ | exact ae_nz0 | exact ae_nz1 | exact ae_fz0 | exact ae_fz1 | exact cI_na (by omega) | exact cI_ix (by omega) | exact cI_nn (by omega) | exact cI_nz (by omega) | exact cI_cp (by omega) | assumption | omega) only [s_X6_step_41, s_X6_step_42, s_X6_step_45, s_X6_step_46, s_X6_step_49, s_X6_step_52, s_X6_step_53 (cu_n hcu).1, s_X6_step_56 hso.1, s_X6_step_59, s_X6_step_71, s_X6_step_72, s_X6_step_75, s_X6_step_76, s_X6_step_79, s_X6_step_82, s_X6_step_83 (cu_n hcu).1, s_X6_step_86 hso.1, s_X6_step_89, s_X6_step_101, s_X6_step_102, s_X6_step_103 ov_15, s_X6_step_106, og_0, og_1, og_2, og_3, og_4, og_5, og_6, og_7, og_8, og_9, og_10, og_11, og_12, op_6, op_8, op_9, op_10, op_11, op_12, dg_0, dg_1, dg_2, dg_3, dp_1, dp_2, dp_3, ng_b, ng_d, mz_m, ms_m, ov_2, nset_d, nset_b, uI_1, uI_2, uR_1, uR_21, uR_22, va_rf, Bool.false_eq_true, ae_Ki, ae_Kb, ae_Kj, ae_Ka, ae_Si, ae_Sb, ae_Sj, ae_Sn, List.getElem?_cons_succ, List.getElem?_cons_zero, ↓reduceIte, if_true, if_false, nI_ofNat, true_or, or_true, false_or, or_false, true_and, and_true, false_and, and_false, or_self, and_self, not_true_eq_false, not_false_eq_true, eq_self, List.length_cons, List.length_nil, Nat.reduceAdd, Nat.reduceLT, Nat.reduceSub, List.set_cons_succ, List.set_cons_zero, Option.toList, List.nil_append, List.cons_append, cI_ltT, cI_ltF, cI_leT, cI_leF, cI_eqT, cI_eqF, cI_cl, cN_leT, cN_leF, cN_ltT, cN_ltF, cN_eqT, cN_eqF, cI_add, cI_sub, cI_m1a, cI_m1b, cI_m1c, cI_m1d, cI_m1e, cI_m1f, cg_0 hcu, gA0, gF0, gA1, gF1, z1, s_X6_unify_142, s_X6_unify_143 ov_15, s_X6_unify_146, s_X6_unify_147, j1]
        · rw [z4]; exact j2
end STQ
