/-! NarrowSolver$Solver: unify but for deliver -/
def unf (A : Nat → Nat) (F : Nat → Bool) (v : sV) (e a : List Nat) (mn fr : Nat) : sV :=
  if 100 ≤ e.getD 0 0 ∧ 100 ≤ e.getD (te A e 0) 0 then kpm v (sbx (if e.getD 0 0 = e.getD (te A e 0) 0 then -1 else nI (e.getD 0 0)) [e.getD (te A e 0) 0] (sl e (te A e (te A e 0)) e.length)) (sbx (if e.getD 0 0 = e.getD (te A e 0) 0 then -1 else nI (e.getD 0 0)) [e.getD (te A e 0) 0] a) (mn - 1) fr
  else if 100 ≤ e.getD 0 0 then bsm A F v e a mn fr true (e.getD 0 0) (te A e 0)
  else if 100 ≤ e.getD (te A e 0) 0 then bsm A F v e a mn fr false (e.getD (te A e 0) 0) 0
  else if e.getD 0 0 = e.getD (te A e 0) 0 then kpm v (gar A e (-1) [] (A (e.getD 0 0)) 1 (te A e 0 + 1) ++ sl e (te A e (te A e 0)) e.length) a (mn - 1 + A (e.getD 0 0)) fr
  else flm v
theorem stm_unf {A : Nat → Nat} {F : Nat → Bool} {rl : mR} {ns : Nat} {v0 : sV} {e a : List Nat} {mn fr : Nat} : stm A F rl ns v0 (e, a, mn, fr) = if F (e.getD 0 0) = true then wkm A F rl ns e a mn fr (v0.1, v0.2.1, v0.2.2.1 + nI 1, v0.2.2.2) 36000 0 (bgn A (e.getD 0 0)) (rof rl (e.getD 0 0)) else if F (e.getD (te A e 0) 0) = true then wkm A F rl ns e a mn fr (v0.1, v0.2.1, v0.2.2.1 + nI 1, v0.2.2.2) 36000 (te A e 0) (bgn A (e.getD (te A e 0) 0)) (rof rl (e.getD (te A e 0) 0)) else unf A F (v0.1, v0.2.1, v0.2.2.1 + nI 1, v0.2.2.2) e a mn fr := rfl
/-- a draft that is ready to be delivered -/
def rdy (y : rS) (L T : List Nat) (mn nx : Nat) : Prop := dr y (L ++ T) ∧ y.1 20 = nI mn ∧ y.1 22 = nI nx ∧ ∃ sz, y.1 21 = nI sz ∧ (L.length ≤ 300 → sz = L.length)
def lok (L T : List Nat) (mn nx : Nat) : Prop := mn < 1000 ∧ nx < 1000 ∧ (mn = 0 → L = []) ∧ (L ++ T).length < 1000000
theorem rn_zero {A : Nat → Nat} {l : List Nat} (h : rn A l 0 = some 0) : l = [] := by
  cases l with
  | nil => rfl
  | cons z l => simp [rn] at h
section UNK
variable {d : Nat} {Q : Option Value → ah_H → Prop} {H : ah_H} {x c p : Nat} {y : rS} {g : Nat → Int32} {e a B L : List Nat} {mn fr : Nat} {A : Nat → Nat} {ns : Nat} {ar fn : Nat → Int32} {F : Nat → Bool}
/-- from the binding on -/
theorem m_X6_un_tail (hc : cur H x c p g e a mn fr) (hs : sym H (x + 1) ns ar fn) (hA : arl A ns ar) (hw : wfq ns A (e, a, mn, fr)) {v : Int32} {hd : Nat} (b0 bT : Bool) (hb0 : b0 = decide (100 ≤ e.getD 0 0)) (hbT : bT = decide (100 ≤ e.getD (te A e 0) 0)) (hhd : hd = if 100 ≤ e.getD 0 0 then e.getD (te A e 0) 0 else e.getD 0 0) (hBl : b0 = true ∨ bT = true → A hd = 0 ∨ B.length = A hd + 1) (hac : b0 = false → A hd = A (e.getD 0 0)) (hat : bT = false → A hd = A (e.getD (te A e 0) 0)) (hd1 : dr y []) (hB : bd y B) (hv : y.1 8 = v) {nx : Nat} (hnx : nx < 1000) (hq : y.1 20 = nI mn) (hf : y.1 22 = nI nx) : ∃ y2, (∀ Q, ae_wp (d + 5) mX6_unify 119 [some (.ref (x + 15)), some (.int (nI (te A e 0))), some (.int (nI (e.getD 0 0))), some (.int (nI (e.getD (te A e 0) 0))), some (.int (nI (te A e (te A e 0))))] [] (ov H x c p y) Q = ae_wp (d + 5) mX6_unify 142 [some (.ref (x + 15)), some (.int (nI (te A e 0))), some (.int (nI (e.getD 0 0))), some (.int (nI (e.getD (te A e 0) 0))), some (.int (nI (te A e (te A e 0))))] [] (ov H x c p y2) Q) ∧ (rdy y2 (pgl A e v B b0 bT (A hd) 1 (te A e 0 + 1) 1 ++ sbx v B (sl e (te A e (te A e 0)) e.length)) (sbx v B a) (mn - 1 + A hd) nx ∧ lok (pgl A e v B b0 bT (A hd) 1 (te A e 0 + 1) 1 ++ sbx v B (sl e (te A e (te A e 0)) e.length)) (sbx v B a) (mn - 1 + A hd) nx) ∧ frm y y2 [20, 21, 31] [2] [] := by
  obtain ⟨wl, wm⟩ := wfq_ans hw
  obtain ⟨w1, w2, w3, w4, w5, w6, w7⟩ := hw
  dsimp only at w1 w2 w3 w4 w5 w6 w7 wl wm
  obtain ⟨t1, t2, t3, t4, t5⟩ := rn_te (A := A) (l := e) (i := 0) (m := 2 * mn - 1) (by rw [List.drop_zero, show 2 * mn - 1 + 1 = 2 * mn by omega]; exact w3)
  obtain ⟨u1, u2, u3, u4, u5⟩ := rn_te (A := A) (l := e) (i := te A e 0) (m := 2 * mn - 2) (by rw [show 2 * mn - 2 + 1 = 2 * mn - 1 by omega]; exact t5)
  obtain ⟨j1, j2, j3⟩ := te_args (A := A) (l := e) (i := 0) (m := 2 * mn - 1) (by rw [List.drop_zero, show 2 * mn - 1 + 1 = 2 * mn by omega]; exact w3)
  obtain ⟨j4, j5, j6⟩ := te_args (A := A) (l := e) (i := te A e 0) (m := 2 * mn - 2) (by rw [show 2 * mn - 2 + 1 = 2 * mn - 1 by omega]; exact t5)
  have k0 := w1 0 (by omega)
  have k1 := w1 (te A e 0) (by omega)
  have hns := hA.1
  have hh : hd < 256 := by rw [hhd]; split <;> omega
  have hA3 := arl_le hA hd
  have hp := hc.1
  obtain ⟨y1, p1, p2, p3, p4⟩ := m_X6_putArguments (d := d) (y := y) (L := []) hc hs hA w1 w2 (v := v) (t := te A e 0) (hd := hd) (b0 := b0) (bT := bT) (by omega) (by omega) hb0 hbT hh hBl (m1 := 2 * mn - 1) (m2 := 2 * mn - 2) (fun z => by rw [hac z]; exact j3) (fun z => by rw [hat z]; exact j6) hd1 hB hv (by simp) hq (by omega)
  rw [List.nil_append] at p2
  have hpl := pgl_len (A := A) (v := v) (b0 := b0) (bT := bT) hB.2.2 (by omega : e.length ≤ 300) (A hd) 1 (te A e 0 + 1) 1
  obtain ⟨y2, sz, q1, q2, q3, q4, q5⟩ := m_X6_finishDraft (d := d + 1) (y := y1) hc (i := te A e (te A e 0)) u2 p2 (bd_frm p4 (by decide) (by decide) hB) (v := v) (by rw [p4.1 8 (by decide)]; exact hv) (by omega)
  have gV := fun (h : ah_H) Q => m_X10_isVariable (d := d + 4) (Q := Q) (h := h) (v := e.getD 0 0) (by omega)
  have hlk : lok (pgl A e v B b0 bT (A hd) 1 (te A e 0 + 1) 1 ++ sbx v B (sl e (te A e (te A e 0)) e.length)) (sbx v B a) (mn - 1 + A hd) nx := by
    have h1 := sbx_len (v := v) hB.2.2 (sl e (te A e (te A e 0)) e.length)
    have h2 := sl_len (l := e) (a := te A e (te A e 0)) (b := e.length)
    have h3 := sbx_len (v := v) hB.2.2 a
    refine ⟨by omega, hnx, fun z => ?_, by simp only [List.length_append]; omega⟩
    have z1 : A hd = 0 := by omega
    have z2 : 2 * mn - 2 = 0 := by omega
    rw [z2] at u5
    rw [z1, sl_end, rn_zero u5]
    rfl
  refine ⟨y2, fun Q => ?_, ⟨⟨q2, by rw [q5.1 20 (by decide)]; exact p3, by rw [q5.1 22 (by decide), p4.1 22 (by decide)]; exact hf, sz, q3, q4⟩, hlk⟩, frm_trans (frm_mono p4 (by simp) (by simp) (by simp)) (frm_mono q5 (by simp) (by simp) (by simp))⟩
  by_cases cc : 100 ≤ e.getD 0 0
  · rw [if_pos cc] at hhd
    simp only [if_pos cc] at gV
    subst hhd
    simp (disch := first | exact ae_isR_ref _ | exact ae_isR_null | exact ae_isR_rf _ | exact ae_cat_ref _ | exact ae_cat_int _ | exact ae_cat_null | exact ae_cat_rf _ | exact ae_nz0 | exact ae_nz1 | exact ae_fz0 | exact ae_fz1 | exact cI_na (by omega) | exact cI_ix (by omega) | exact cI_nn (by omega) | exact cI_nz (by omega) | exact cI_cp (by omega) | assumption | omega) only [s_X6_unify_119, s_X6_unify_120, s_X6_unify_121, s_X6_unify_122, s_X6_unify_125, s_X6_unify_128, s_X6_unify_129, s_X6_unify_132, s_X6_unify_133 ov_15, s_X6_unify_136, s_X6_unify_137, s_X6_unify_139 ov_15, og_0, og_1, og_2, og_3, og_4, og_5, og_6, og_7, og_8, og_9, og_10, og_11, og_12, op_6, op_8, op_9, op_10, op_11, op_12, dg_0, dg_1, dg_2, dg_3, dp_1, dp_2, dp_3, ng_b, ng_d, mz_m, ms_m, ov_2, nset_d, nset_b, uI_1, uI_2, uR_1, uR_21, uR_22, va_rf, Bool.false_eq_true, ae_Ki, ae_Kb, ae_Kj, ae_Ka, ae_Si, ae_Sb, ae_Sj, ae_Sn, List.getElem?_cons_succ, List.getElem?_cons_zero, ↓reduceIte, if_true, if_false, nI_ofNat, true_or, or_true, false_or, or_false, true_and, and_true, false_and, and_false, or_self, and_self, not_true_eq_false, not_false_eq_true, eq_self, List.length_cons, List.length_nil, Nat.reduceAdd, Nat.reduceLT, Nat.reduceSub, List.set_cons_succ, List.set_cons_zero, Option.toList, List.nil_append, List.cons_append, cI_ltT, cI_ltF, cI_leT, cI_leF, cI_eqT, cI_eqF, cI_cl, cN_leT, cN_leF, cN_ltT, cN_ltF, cN_eqT, cN_eqF, cI_add, cI_sub, cI_m1a, cI_m1b, cI_m1c, cI_m1d, cI_m1e, cI_m1f, gV, p1, q1]
  · rw [if_neg cc] at hhd
    simp only [if_neg cc] at gV
    subst hhd
    simp (disch := first | exact ae_isR_ref _ | exact ae_isR_null | exact ae_isR_rf _ | exact ae_cat_ref _ | exact ae_cat_int _ | exact ae_cat_null | exact ae_cat_rf _ | exact ae_nz0 | exact ae_nz1 | exact ae_fz0 | exact ae_fz1 | exact cI_na (by omega) | exact cI_ix (by omega) | exact cI_nn (by omega) | exact cI_nz (by omega) | exact cI_cp (by omega) | assumption | omega) only [s_X6_unify_119, s_X6_unify_120, s_X6_unify_121, s_X6_unify_122, s_X6_unify_125, s_X6_unify_128, s_X6_unify_129, s_X6_unify_132, s_X6_unify_133 ov_15, s_X6_unify_136, s_X6_unify_137, s_X6_unify_139 ov_15, og_0, og_1, og_2, og_3, og_4, og_5, og_6, og_7, og_8, og_9, og_10, og_11, og_12, op_6, op_8, op_9, op_10, op_11, op_12, dg_0, dg_1, dg_2, dg_3, dp_1, dp_2, dp_3, ng_b, ng_d, mz_m, ms_m, ov_2, nset_d, nset_b, uI_1, uI_2, uR_1, uR_21, uR_22, va_rf, Bool.false_eq_true, ae_Ki, ae_Kb, ae_Kj, ae_Ka, ae_Si, ae_Sb, ae_Sj, ae_Sn, List.getElem?_cons_succ, List.getElem?_cons_zero, ↓reduceIte, if_true, if_false, nI_ofNat, true_or, or_true, false_or, or_false, true_and, and_true, false_and, and_false, or_self, and_self, not_true_eq_false, not_false_eq_true, eq_self, List.length_cons, List.length_nil, Nat.reduceAdd, Nat.reduceLT, Nat.reduceSub, List.set_cons_succ, List.set_cons_zero, Option.toList, List.nil_append, List.cons_append, cI_ltT, cI_ltF, cI_leT, cI_leF, cI_eqT, cI_eqF, cI_cl, cN_leT, cN_leF, cN_ltT, cN_ltF, cN_eqT, cN_eqF, cI_add, cI_sub, cI_m1a, cI_m1b, cI_m1c, cI_m1d, cI_m1e, cI_m1f, gV, p1, q1]
theorem m_X6_unify_pre (hc : cur H x c p g e a mn fr) (hs : sym H (x + 1) ns ar fn) (hA : arl A ns ar) (hF : fnl F ns fn) (hw : wfq ns A (e, a, mn, fr)) (hd1 : dr y L) (hB : bd y B) (hnt : F (e.getD (te A e 0) 0) = false) : ∃ y2, frm y y2 [8, 20, 21, 22, 30, 31] [0, 2] [] ∧ (((∀ Q, ae_wm (d + 5) mX6_unify [.ref (x + 15), .int (nI (te A e 0))] (ov H x c p y) Q = Q (some (.int (nI 0))) (ov H x c p y2)) ∧ dr y2 [] ∧ (∃ B2, bd y2 B2) ∧ ∀ v : sV, unf A F v e a mn fr = flm v) ∨ ∃ L T mn2 nx x2 x3 x4, (∀ Q, ae_wm (d + 5) mX6_unify [.ref (x + 15), .int (nI (te A e 0))] (ov H x c p y) Q = ae_wp (d + 5) mX6_unify 142 [some (.ref (x + 15)), some (.int (nI (te A e 0))), x2, x3, x4] [] (ov H x c p y2) Q) ∧ (rdy y2 L T mn2 nx ∧ lok L T mn2 nx) ∧ (∃ B2, bd y2 B2) ∧ ∀ v : sV, unf A F v e a mn fr = kpm v L T mn2 nx) := by
  obtain ⟨wl, wm⟩ := wfq_ans hw
  have hw0 := hw
  obtain ⟨w1, w2, w3, w4, w5, w6, w7⟩ := hw0
  dsimp only at w1 w2 w3 w4 w5 w6 w7 wl wm
  obtain ⟨t1, t2, t3, t4, t5⟩ := rn_te (A := A) (l := e) (i := 0) (m := 2 * mn - 1) (by rw [List.drop_zero, show 2 * mn - 1 + 1 = 2 * mn by omega]; exact w3)
  obtain ⟨u1, u2, u3, u4, u5⟩ := rn_te (A := A) (l := e) (i := te A e 0) (m := 2 * mn - 2) (by rw [show 2 * mn - 2 + 1 = 2 * mn - 1 by omega]; exact t5)
  have k0 := w1 0 (by omega)
  have k1 := w1 (te A e 0) (by omega)
  have hac := rn_acm w3
  have hns := hA.1
  have hp := hc.1
  have hl := hc.2.2.2.2.2.2
  have hr := hc.2.2.2.2.2.1
  have hll : (e ++ a).length = e.length + a.length := List.length_append
  have hsml : sml (e ++ a) := fun i hi => by
    have := kn1_app w1 w2 i hi
    omega
  have g0 := fun Q => m_X1_at_l (d := d + 4) (Q := Q) (i := 0) (cu_n (y := y) hc) (by omega) hr (by omega) hl
  rw [getD_app1 (by omega)] at g0
  have g1 := fun Q => m_X1_at_l (d := d + 4) (Q := Q) (i := te A e 0) (cu_n (y := y) hc) (by omega) hr (by omega) hl
  rw [getD_app1 (by omega)] at g1
  have gE := fun Q => m_X7_endOfTerm (d := d + 3) (Q := Q) (i := te A e 0) (sym_ov (c := c) (y := y) hp hs) hA (cu_n (y := y) hc) (by omega) hl hr hsml (by omega)
  rw [te_app u3] at gE
  obtain ⟨y1, s1, s2, s3, s4, s5, s6⟩ := m_X6_startDraft (d := d + 3) hc hd1
  have hB1 := bd_frm s6 (by decide) (by decide) hB
  have hpre : ∀ Q, ae_wm (d + 5) mX6_unify [.ref (x + 15), .int (nI (te A e 0))] (ov H x c p y) Q = ae_wp (d + 5) mX6_unify 45 [some (.ref (x + 15)), some (.int (nI (te A e 0))), some (.int (nI (e.getD 0 0))), some (.int (nI (e.getD (te A e 0) 0))), some (.int (nI (te A e (te A e 0))))] [] (ov H x c p y1) Q := fun Q => by
    simp (disch := first | exact ae_isR_ref _ | exact ae_isR_null | exact ae_isR_rf _ | exact ae_cat_ref _ | exact ae_cat_int _ | exact ae_cat_null | exact ae_cat_rf _ | exact ae_nz0 | exact ae_nz1 | exact ae_fz0 | exact ae_fz1 | exact cI_na (by omega) | exact cI_ix (by omega) | exact cI_nn (by omega) | exact cI_nz (by omega) | exact cI_cp (by omega) | assumption | omega) only [s_X6_unify_0, s_X6_unify_1, s_X6_unify_4, s_X6_unify_7, s_X6_unify_8 (cu_n hc).1, s_X6_unify_11, s_X6_unify_12, s_X6_unify_13, s_X6_unify_16, s_X6_unify_19, s_X6_unify_20 (cu_n hc).1, s_X6_unify_23, s_X6_unify_24, s_X6_unify_25, s_X6_unify_28, s_X6_unify_29, s_X6_unify_32, s_X6_unify_35, s_X6_unify_36 (sym_ov hp hs).1, s_X6_unify_39, s_X6_unify_41, s_X6_unify_42 ov_15, e_X6_unify, og_0, og_1, og_2, og_3, og_4, og_5, og_6, og_7, og_8, og_9, og_10, og_11, og_12, op_6, op_8, op_9, op_10, op_11, op_12, dg_0, dg_1, dg_2, dg_3, dp_1, dp_2, dp_3, ng_b, ng_d, mz_m, ms_m, ov_2, nset_d, nset_b, uI_1, uI_2, uR_1, uR_21, uR_22, va_rf, Bool.false_eq_true, ae_Ki, ae_Kb, ae_Kj, ae_Ka, ae_Si, ae_Sb, ae_Sj, ae_Sn, List.getElem?_cons_succ, List.getElem?_cons_zero, ↓reduceIte, if_true, if_false, nI_ofNat, true_or, or_true, false_or, or_false, true_and, and_true, false_and, and_false, or_self, and_self, not_true_eq_false, not_false_eq_true, eq_self, List.length_cons, List.length_nil, Nat.reduceAdd, Nat.reduceLT, Nat.reduceSub, List.set_cons_succ, List.set_cons_zero, Option.toList, List.nil_append, List.cons_append, cI_ltT, cI_ltF, cI_leT, cI_leF, cI_eqT, cI_eqF, cI_cl, cN_leT, cN_leF, cN_ltT, cN_ltF, cN_eqT, cN_eqF, cI_add, cI_sub, cI_m1a, cI_m1b, cI_m1c, cI_m1d, cI_m1e, cI_m1f, cg_0 hc, g0, g1, gE, s1]
  have gV0 := fun (h : ah_H) Q => m_X10_isVariable (d := d + 4) (Q := Q) (h := h) (v := e.getD 0 0) (by omega)
  have gV1 := fun (h : ah_H) Q => m_X10_isVariable (d := d + 4) (Q := Q) (h := h) (v := e.getD (te A e 0) 0) (by omega)
  have tail := fun (y1 : rS) (B : List Nat) (v : Int32) (hd : Nat) (b0 bT : Bool) h1 h2 h3 h4 h5 h6 h7 h8 h9 (nx : Nat) (hnx : nx < 1000) h10 h11 => m_X6_un_tail (d := d) (y := y1) (B := B) (v := v) (hd := hd) hc hs hA hw b0 bT h1 h2 h3 h4 h5 h6 h7 h8 h9 (nx := nx) hnx h10 h11
  have hf1 := frm_mono (I2 := [8, 20, 21, 22, 30, 31]) (R2 := [0, 2]) (W2 := []) s6 (by simp) (by simp) (by simp)
  unfold unf
  by_cases c0 : 100 ≤ e.getD 0 0
  · simp only [if_pos c0] at gV0
    by_cases c1 : 100 ≤ e.getD (te A e 0) 0
    · simp only [if_pos c1] at gV1
      have hA0 : A (e.getD (te A e 0) 0) = 0 := hA.2.2 _ (by omega)
      simp only [if_pos (And.intro c0 c1)]
      by_cases ceq : e.getD 0 0 = e.getD (te A e 0) 0
      · simp only [if_pos ceq]
        have gt : ∀ Q, ae_wp (d + 5) mX6_unify 45 [some (.ref (x + 15)), some (.int (nI (te A e 0))), some (.int (nI (e.getD 0 0))), some (.int (nI (e.getD (te A e 0) 0))), some (.int (nI (te A e (te A e 0))))] [] (ov H x c p y1) Q = ae_wp (d + 5) mX6_unify 119 [some (.ref (x + 15)), some (.int (nI (te A e 0))), some (.int (nI (e.getD 0 0))), some (.int (nI (e.getD (te A e 0) 0))), some (.int (nI (te A e (te A e 0))))] [] (ov H x c p y1) Q := fun Q => by
          rw [← ceq]
          simp (disch := first | exact ae_isR_ref _ | exact ae_isR_null | exact ae_isR_rf _ | exact ae_cat_ref _ | exact ae_cat_int _ | exact ae_cat_null | exact ae_cat_rf _ | exact ae_nz0 | exact ae_nz1 | exact ae_fz0 | exact ae_fz1 | exact cI_na (by omega) | exact cI_ix (by omega) | exact cI_nn (by omega) | exact cI_nz (by omega) | exact cI_cp (by omega) | assumption | omega) only [s_X6_unify_45, s_X6_unify_46, s_X6_unify_47, s_X6_unify_79, s_X6_unify_80, s_X6_unify_81, s_X6_unify_112, s_X6_unify_113, s_X6_unify_114, og_0, og_1, og_2, og_3, og_4, og_5, og_6, og_7, og_8, og_9, og_10, og_11, og_12, op_6, op_8, op_9, op_10, op_11, op_12, dg_0, dg_1, dg_2, dg_3, dp_1, dp_2, dp_3, ng_b, ng_d, mz_m, ms_m, ov_2, nset_d, nset_b, uI_1, uI_2, uR_1, uR_21, uR_22, va_rf, Bool.false_eq_true, ae_Ki, ae_Kb, ae_Kj, ae_Ka, ae_Si, ae_Sb, ae_Sj, ae_Sn, List.getElem?_cons_succ, List.getElem?_cons_zero, ↓reduceIte, if_true, if_false, nI_ofNat, true_or, or_true, false_or, or_false, true_and, and_true, false_and, and_false, or_self, and_self, not_true_eq_false, not_false_eq_true, eq_self, List.length_cons, List.length_nil, Nat.reduceAdd, Nat.reduceLT, Nat.reduceSub, List.set_cons_succ, List.set_cons_zero, Option.toList, List.nil_append, List.cons_append, cI_ltT, cI_ltF, cI_leT, cI_leF, cI_eqT, cI_eqF, cI_cl, cN_leT, cN_leF, cN_ltT, cN_ltF, cN_eqT, cN_eqF, cI_add, cI_sub, cI_m1a, cI_m1b, cI_m1c, cI_m1d, cI_m1e, cI_m1f]
        obtain ⟨y2, q1, q2, q3⟩ := tail y1 B (-1) (e.getD (te A e 0) 0) true true (decide_eq_true c0).symm (decide_eq_true c1).symm (by rw [if_pos c0]) (fun _ => Or.inl hA0) (fun z => by cases z) (fun z => by cases z) s2 hB1 s5 fr (by omega) s3 s4
        rw [hA0, sbx_m1s hns w1, sbx_m1a hns w2] at q2
        refine ⟨y2, frm_trans hf1 (frm_mono q3 (by simp) (by simp) (by simp)), Or.inr ⟨_, _, _, _, _, _, _, fun Q => (hpre Q).trans ((gt Q).trans (q1 Q)), q2, ⟨B, bd_frm q3 (by decide) (by decide) hB1⟩, fun v => ?_⟩⟩
        rw [sbx_m1s hns w1, sbx_m1a hns w2]
        rfl
      · simp only [if_neg ceq]
        have hte : te A e (te A e 0) = te A e 0 + 1 := by
          have := (te_args (A := A) (l := e) (i := te A e 0) (m := 2 * mn - 2) (by rw [show 2 * mn - 2 + 1 = 2 * mn - 1 by omega]; exact t5)).1
          rw [hA0] at this
          exact this
        have hst : stn A F e (nI (e.getD 0 0)) (te A e (te A e 0) - te A e 0) (te A e 0) (te A e (te A e 0)) = false := by
          rw [hte, show te A e 0 + 1 - te A e 0 = 0 + 1 by omega, stn, if_pos (by omega), if_neg (by rw [cI_eqF (by omega)]; exact id), hnt, if_neg (by decide), stn]
        have gS := fun Q => m_X6_standsOpenly (d := d + 2) (Q := Q) (y := y1) hc hs hA hF w1 w2 hac (vv := e.getD 0 0) (by omega) (i := te A e 0) (b := te A e (te A e 0)) (by omega) u2
        rw [hst] at gS
        obtain ⟨y2, b1, b2, b3, b4, b5⟩ := m_X6_bind (d := d + 3) (y := y1) hc hs hA (hd := e.getD (te A e 0) 0) (by omega) (fr0 := fr) (by omega) (v := nI (e.getD 0 0)) hB1.1 (by have := hB1.2.2; omega) s4
        have gt : ∀ Q, ae_wp (d + 5) mX6_unify 45 [some (.ref (x + 15)), some (.int (nI (te A e 0))), some (.int (nI (e.getD 0 0))), some (.int (nI (e.getD (te A e 0) 0))), some (.int (nI (te A e (te A e 0))))] [] (ov H x c p y1) Q = ae_wp (d + 5) mX6_unify 119 [some (.ref (x + 15)), some (.int (nI (te A e 0))), some (.int (nI (e.getD 0 0))), some (.int (nI (e.getD (te A e 0) 0))), some (.int (nI (te A e (te A e 0))))] [] (ov H x c p y2) Q := fun Q => by
          simp (disch := first | exact ae_isR_ref _ | exact ae_isR_null | exact ae_isR_rf _ | exact ae_cat_ref _ | exact ae_cat_int _ | exact ae_cat_null | exact ae_cat_rf _ | exact ae_nz0 | exact ae_nz1 | exact ae_fz0 | exact ae_fz1 | exact cI_na (by omega) | exact cI_ix (by omega) | exact cI_nn (by omega) | exact cI_nz (by omega) | exact cI_cp (by omega) | assumption | omega) only [s_X6_unify_45, s_X6_unify_46, s_X6_unify_47, s_X6_unify_50, s_X6_unify_51, s_X6_unify_54, s_X6_unify_57, s_X6_unify_58, s_X6_unify_59, s_X6_unify_60, s_X6_unify_62 ov_15, s_X6_unify_65, s_X6_unify_68, s_X6_unify_69, s_X6_unify_70, s_X6_unify_71, s_X6_unify_72, s_X6_unify_73 ov_15, s_X6_unify_76, og_0, og_1, og_2, og_3, og_4, og_5, og_6, og_7, og_8, og_9, og_10, og_11, og_12, op_6, op_8, op_9, op_10, op_11, op_12, dg_0, dg_1, dg_2, dg_3, dp_1, dp_2, dp_3, ng_b, ng_d, mz_m, ms_m, ov_2, nset_d, nset_b, uI_1, uI_2, uR_1, uR_21, uR_22, va_rf, Bool.false_eq_true, ae_Ki, ae_Kb, ae_Kj, ae_Ka, ae_Si, ae_Sb, ae_Sj, ae_Sn, List.getElem?_cons_succ, List.getElem?_cons_zero, ↓reduceIte, if_true, if_false, nI_ofNat, true_or, or_true, false_or, or_false, true_and, and_true, false_and, and_false, or_self, and_self, not_true_eq_false, not_false_eq_true, eq_self, List.length_cons, List.length_nil, Nat.reduceAdd, Nat.reduceLT, Nat.reduceSub, List.set_cons_succ, List.set_cons_zero, Option.toList, List.nil_append, List.cons_append, cI_ltT, cI_ltF, cI_leT, cI_leF, cI_eqT, cI_eqF, cI_cl, cN_leT, cN_leF, cN_ltT, cN_ltF, cN_eqT, cN_eqF, cI_add, cI_sub, cI_m1a, cI_m1b, cI_m1c, cI_m1d, cI_m1e, cI_m1f, gV0, gS, b1]
        have hbe : bnd A fr (e.getD (te A e 0) 0) = [e.getD (te A e 0) 0] := by
          unfold bnd
          rw [hA0]
          rfl
        rw [hA0, Nat.add_zero] at b3
        obtain ⟨y3, q1, q2, q3⟩ := tail y2 _ (nI (e.getD 0 0)) (e.getD (te A e 0) 0) true true (decide_eq_true c0).symm (decide_eq_true c1).symm (by rw [if_pos c0]) (fun _ => Or.inl hA0) (fun z => by cases z) (fun z => by cases z) (dr_frm b5 (by decide) (by decide) s2) b2 b4 fr (by omega) (by rw [b5.1 20 (by decide)]; exact s3) b3
        rw [hA0, hbe] at q2
        exact ⟨y3, frm_trans hf1 (frm_trans (frm_mono b5 (by simp) (by simp) (by simp)) (frm_mono q3 (by simp) (by simp) (by simp))), Or.inr ⟨_, _, _, _, _, _, _, fun Q => (hpre Q).trans ((gt Q).trans (q1 Q)), q2, ⟨_, bd_frm q3 (by decide) (by decide) b2⟩, fun v => rfl⟩⟩
    · simp only [if_neg c1] at gV1
      simp only [if_neg (fun z : 100 ≤ e.getD 0 0 ∧ 100 ≤ e.getD (te A e 0) 0 => c1 z.2), if_pos c0]
      unfold bsm
      have gS := fun Q => m_X6_standsOpenly (d := d + 2) (Q := Q) (y := y1) hc hs hA hF w1 w2 hac (vv := e.getD 0 0) (by omega) (i := te A e 0) (b := te A e (te A e 0)) (by omega) u2
      by_cases cst : stn A F e (nI (e.getD 0 0)) (te A e (te A e 0) - te A e 0) (te A e 0) (te A e (te A e 0)) = true
      · simp only [if_pos cst] at gS ⊢
        refine ⟨y1, hf1, Or.inl ⟨fun Q => (hpre Q).trans ?_, s2, ⟨B, hB1⟩, fun v => trivial⟩⟩
        simp (disch := first | exact ae_isR_ref _ | exact ae_isR_null | exact ae_isR_rf _ | exact ae_cat_ref _ | exact ae_cat_int _ | exact ae_cat_null | exact ae_cat_rf _ | exact ae_nz0 | exact ae_nz1 | exact ae_fz0 | exact ae_fz1 | exact cI_na (by omega) | exact cI_ix (by omega) | exact cI_nn (by omega) | exact cI_nz (by omega) | exact cI_cp (by omega) | assumption | omega) only [s_X6_unify_45, s_X6_unify_46, s_X6_unify_47, s_X6_unify_50, s_X6_unify_51, s_X6_unify_54, s_X6_unify_57, s_X6_unify_58, s_X6_unify_59, s_X6_unify_60, s_X6_unify_62 ov_15, s_X6_unify_65, s_X6_unify_68, s_X6_unify_69, og_0, og_1, og_2, og_3, og_4, og_5, og_6, og_7, og_8, og_9, og_10, og_11, og_12, op_6, op_8, op_9, op_10, op_11, op_12, dg_0, dg_1, dg_2, dg_3, dp_1, dp_2, dp_3, ng_b, ng_d, mz_m, ms_m, ov_2, nset_d, nset_b, uI_1, uI_2, uR_1, uR_21, uR_22, va_rf, Bool.false_eq_true, ae_Ki, ae_Kb, ae_Kj, ae_Ka, ae_Si, ae_Sb, ae_Sj, ae_Sn, List.getElem?_cons_succ, List.getElem?_cons_zero, ↓reduceIte, if_true, if_false, nI_ofNat, true_or, or_true, false_or, or_false, true_and, and_true, false_and, and_false, or_self, and_self, not_true_eq_false, not_false_eq_true, eq_self, List.length_cons, List.length_nil, Nat.reduceAdd, Nat.reduceLT, Nat.reduceSub, List.set_cons_succ, List.set_cons_zero, Option.toList, List.nil_append, List.cons_append, cI_ltT, cI_ltF, cI_leT, cI_leF, cI_eqT, cI_eqF, cI_cl, cN_leT, cN_leF, cN_ltT, cN_ltF, cN_eqT, cN_eqF, cI_add, cI_sub, cI_m1a, cI_m1b, cI_m1c, cI_m1d, cI_m1e, cI_m1f, gV0, gS]
      · simp only [if_neg cst] at gS ⊢
        obtain ⟨y2, b1, b2, b3, b4, b5⟩ := m_X6_bind (d := d + 3) (y := y1) hc hs hA (hd := e.getD (te A e 0) 0) (by omega) (fr0 := fr) (by omega) (v := nI (e.getD 0 0)) hB1.1 (by have := hB1.2.2; omega) s4
        have gt : ∀ Q, ae_wp (d + 5) mX6_unify 45 [some (.ref (x + 15)), some (.int (nI (te A e 0))), some (.int (nI (e.getD 0 0))), some (.int (nI (e.getD (te A e 0) 0))), some (.int (nI (te A e (te A e 0))))] [] (ov H x c p y1) Q = ae_wp (d + 5) mX6_unify 119 [some (.ref (x + 15)), some (.int (nI (te A e 0))), some (.int (nI (e.getD 0 0))), some (.int (nI (e.getD (te A e 0) 0))), some (.int (nI (te A e (te A e 0))))] [] (ov H x c p y2) Q := fun Q => by
          simp (disch := first | exact ae_isR_ref _ | exact ae_isR_null | exact ae_isR_rf _ | exact ae_cat_ref _ | exact ae_cat_int _ | exact ae_cat_null | exact ae_cat_rf _ | exact ae_nz0 | exact ae_nz1 | exact ae_fz0 | exact ae_fz1 | exact cI_na (by omega) | exact cI_ix (by omega) | exact cI_nn (by omega) | exact cI_nz (by omega) | exact cI_cp (by omega) | assumption | omega) only [s_X6_unify_45, s_X6_unify_46, s_X6_unify_47, s_X6_unify_50, s_X6_unify_51, s_X6_unify_54, s_X6_unify_57, s_X6_unify_58, s_X6_unify_59, s_X6_unify_60, s_X6_unify_62 ov_15, s_X6_unify_65, s_X6_unify_68, s_X6_unify_69, s_X6_unify_70, s_X6_unify_71, s_X6_unify_72, s_X6_unify_73 ov_15, s_X6_unify_76, og_0, og_1, og_2, og_3, og_4, og_5, og_6, og_7, og_8, og_9, og_10, og_11, og_12, op_6, op_8, op_9, op_10, op_11, op_12, dg_0, dg_1, dg_2, dg_3, dp_1, dp_2, dp_3, ng_b, ng_d, mz_m, ms_m, ov_2, nset_d, nset_b, uI_1, uI_2, uR_1, uR_21, uR_22, va_rf, Bool.false_eq_true, ae_Ki, ae_Kb, ae_Kj, ae_Ka, ae_Si, ae_Sb, ae_Sj, ae_Sn, List.getElem?_cons_succ, List.getElem?_cons_zero, ↓reduceIte, if_true, if_false, nI_ofNat, true_or, or_true, false_or, or_false, true_and, and_true, false_and, and_false, or_self, and_self, not_true_eq_false, not_false_eq_true, eq_self, List.length_cons, List.length_nil, Nat.reduceAdd, Nat.reduceLT, Nat.reduceSub, List.set_cons_succ, List.set_cons_zero, Option.toList, List.nil_append, List.cons_append, cI_ltT, cI_ltF, cI_leT, cI_leF, cI_eqT, cI_eqF, cI_cl, cN_leT, cN_leF, cN_ltT, cN_ltF, cN_eqT, cN_eqF, cI_add, cI_sub, cI_m1a, cI_m1b, cI_m1c, cI_m1d, cI_m1e, cI_m1f, gV0, gS, b1]
        obtain ⟨y3, q1, q2, q3⟩ := tail y2 _ (nI (e.getD 0 0)) (e.getD (te A e 0) 0) true false (decide_eq_true c0).symm (decide_eq_false c1).symm (by rw [if_pos c0]) (fun _ => Or.inr (by simp [bnd])) (fun z => by cases z) (fun _ => rfl) (dr_frm b5 (by decide) (by decide) s2) b2 b4 (fr + A (e.getD (te A e 0) 0)) (by have := arl_le hA (e.getD (te A e 0) 0); omega) (by rw [b5.1 20 (by decide)]; exact s3) b3
        have hpg := pgl_tf (A := A) (e := e) (v := nI (e.getD 0 0)) (B := bnd A fr (e.getD (te A e 0) 0)) (A (e.getD (te A e 0) 0)) 1 (te A e 0 + 1) 0
        rw [Nat.add_zero] at hpg
        rw [hpg] at q2
        exact ⟨y3, frm_trans hf1 (frm_trans (frm_mono b5 (by simp) (by simp) (by simp)) (frm_mono q3 (by simp) (by simp) (by simp))), Or.inr ⟨_, _, _, _, _, _, _, fun Q => (hpre Q).trans ((gt Q).trans (q1 Q)), q2, ⟨_, bd_frm q3 (by decide) (by decide) b2⟩, fun v => rfl⟩⟩
  · simp only [if_neg c0] at gV0
    simp only [if_neg (fun z : 100 ≤ e.getD 0 0 ∧ 100 ≤ e.getD (te A e 0) 0 => c0 z.1), if_neg c0]
    by_cases c1 : 100 ≤ e.getD (te A e 0) 0
    · simp only [if_pos c1] at gV1 ⊢
      unfold bsm
      have gS := fun Q => m_X6_standsOpenly (d := d + 2) (Q := Q) (y := y1) hc hs hA hF w1 w2 hac (vv := e.getD (te A e 0) 0) (by omega) (i := 0) (b := te A e 0) (by omega) t2
      by_cases cst : stn A F e (nI (e.getD (te A e 0) 0)) (te A e 0 - 0) 0 (te A e 0) = true
      · simp only [if_pos cst] at gS ⊢
        refine ⟨y1, hf1, Or.inl ⟨fun Q => (hpre Q).trans ?_, s2, ⟨B, hB1⟩, fun v => trivial⟩⟩
        simp (disch := first | exact ae_isR_ref _ | exact ae_isR_null | exact ae_isR_rf _ | exact ae_cat_ref _ | exact ae_cat_int _ | exact ae_cat_null | exact ae_cat_rf _ | exact ae_nz0 | exact ae_nz1 | exact ae_fz0 | exact ae_fz1 | exact cI_na (by omega) | exact cI_ix (by omega) | exact cI_nn (by omega) | exact cI_nz (by omega) | exact cI_cp (by omega) | assumption | omega) only [s_X6_unify_45, s_X6_unify_46, s_X6_unify_47, s_X6_unify_50, s_X6_unify_51, s_X6_unify_54, s_X6_unify_79, s_X6_unify_80, s_X6_unify_81, s_X6_unify_84, s_X6_unify_85, s_X6_unify_88, s_X6_unify_91, s_X6_unify_92, s_X6_unify_93, s_X6_unify_94, s_X6_unify_95 ov_15, s_X6_unify_98, s_X6_unify_101, s_X6_unify_102, og_0, og_1, og_2, og_3, og_4, og_5, og_6, og_7, og_8, og_9, og_10, og_11, og_12, op_6, op_8, op_9, op_10, op_11, op_12, dg_0, dg_1, dg_2, dg_3, dp_1, dp_2, dp_3, ng_b, ng_d, mz_m, ms_m, ov_2, nset_d, nset_b, uI_1, uI_2, uR_1, uR_21, uR_22, va_rf, Bool.false_eq_true, ae_Ki, ae_Kb, ae_Kj, ae_Ka, ae_Si, ae_Sb, ae_Sj, ae_Sn, List.getElem?_cons_succ, List.getElem?_cons_zero, ↓reduceIte, if_true, if_false, nI_ofNat, true_or, or_true, false_or, or_false, true_and, and_true, false_and, and_false, or_self, and_self, not_true_eq_false, not_false_eq_true, eq_self, List.length_cons, List.length_nil, Nat.reduceAdd, Nat.reduceLT, Nat.reduceSub, List.set_cons_succ, List.set_cons_zero, Option.toList, List.nil_append, List.cons_append, cI_ltT, cI_ltF, cI_leT, cI_leF, cI_eqT, cI_eqF, cI_cl, cN_leT, cN_leF, cN_ltT, cN_ltF, cN_eqT, cN_eqF, cI_add, cI_sub, cI_m1a, cI_m1b, cI_m1c, cI_m1d, cI_m1e, cI_m1f, gV0, gV1, gS]
      · simp only [if_neg cst] at gS ⊢
        obtain ⟨y2, b1, b2, b3, b4, b5⟩ := m_X6_bind (d := d + 3) (y := y1) hc hs hA (hd := e.getD 0 0) (by omega) (fr0 := fr) (by omega) (v := nI (e.getD (te A e 0) 0)) hB1.1 (by have := hB1.2.2; omega) s4
        have gt : ∀ Q, ae_wp (d + 5) mX6_unify 45 [some (.ref (x + 15)), some (.int (nI (te A e 0))), some (.int (nI (e.getD 0 0))), some (.int (nI (e.getD (te A e 0) 0))), some (.int (nI (te A e (te A e 0))))] [] (ov H x c p y1) Q = ae_wp (d + 5) mX6_unify 119 [some (.ref (x + 15)), some (.int (nI (te A e 0))), some (.int (nI (e.getD 0 0))), some (.int (nI (e.getD (te A e 0) 0))), some (.int (nI (te A e (te A e 0))))] [] (ov H x c p y2) Q := fun Q => by
          simp (disch := first | exact ae_isR_ref _ | exact ae_isR_null | exact ae_isR_rf _ | exact ae_cat_ref _ | exact ae_cat_int _ | exact ae_cat_null | exact ae_cat_rf _ | exact ae_nz0 | exact ae_nz1 | exact ae_fz0 | exact ae_fz1 | exact cI_na (by omega) | exact cI_ix (by omega) | exact cI_nn (by omega) | exact cI_nz (by omega) | exact cI_cp (by omega) | assumption | omega) only [s_X6_unify_45, s_X6_unify_46, s_X6_unify_47, s_X6_unify_50, s_X6_unify_51, s_X6_unify_54, s_X6_unify_79, s_X6_unify_80, s_X6_unify_81, s_X6_unify_84, s_X6_unify_85, s_X6_unify_88, s_X6_unify_91, s_X6_unify_92, s_X6_unify_93, s_X6_unify_94, s_X6_unify_95 ov_15, s_X6_unify_98, s_X6_unify_101, s_X6_unify_102, s_X6_unify_103, s_X6_unify_104, s_X6_unify_105, s_X6_unify_106 ov_15, s_X6_unify_109, og_0, og_1, og_2, og_3, og_4, og_5, og_6, og_7, og_8, og_9, og_10, og_11, og_12, op_6, op_8, op_9, op_10, op_11, op_12, dg_0, dg_1, dg_2, dg_3, dp_1, dp_2, dp_3, ng_b, ng_d, mz_m, ms_m, ov_2, nset_d, nset_b, uI_1, uI_2, uR_1, uR_21, uR_22, va_rf, Bool.false_eq_true, ae_Ki, ae_Kb, ae_Kj, ae_Ka, ae_Si, ae_Sb, ae_Sj, ae_Sn, List.getElem?_cons_succ, List.getElem?_cons_zero, ↓reduceIte, if_true, if_false, nI_ofNat, true_or, or_true, false_or, or_false, true_and, and_true, false_and, and_false, or_self, and_self, not_true_eq_false, not_false_eq_true, eq_self, List.length_cons, List.length_nil, Nat.reduceAdd, Nat.reduceLT, Nat.reduceSub, List.set_cons_succ, List.set_cons_zero, Option.toList, List.nil_append, List.cons_append, cI_ltT, cI_ltF, cI_leT, cI_leF, cI_eqT, cI_eqF, cI_cl, cN_leT, cN_leF, cN_ltT, cN_ltF, cN_eqT, cN_eqF, cI_add, cI_sub, cI_m1a, cI_m1b, cI_m1c, cI_m1d, cI_m1e, cI_m1f, gV0, gV1, gS, b1]
        obtain ⟨y3, q1, q2, q3⟩ := tail y2 _ (nI (e.getD (te A e 0) 0)) (e.getD 0 0) false true (decide_eq_false c0).symm (decide_eq_true c1).symm (by rw [if_neg c0]) (fun _ => Or.inr (by simp [bnd])) (fun _ => rfl) (fun z => by cases z) (dr_frm b5 (by decide) (by decide) s2) b2 b4 (fr + A (e.getD 0 0)) (by have := arl_le hA (e.getD 0 0); omega) (by rw [b5.1 20 (by decide)]; exact s3) b3
        have hpg := pgl_ft (A := A) (e := e) (v := nI (e.getD (te A e 0) 0)) (B := bnd A fr (e.getD 0 0)) (A (e.getD 0 0)) 1 (te A e 0 + 1) 0
        rw [Nat.add_zero] at hpg
        rw [hpg] at q2
        exact ⟨y3, frm_trans hf1 (frm_trans (frm_mono b5 (by simp) (by simp) (by simp)) (frm_mono q3 (by simp) (by simp) (by simp))), Or.inr ⟨_, _, _, _, _, _, _, fun Q => (hpre Q).trans ((gt Q).trans (q1 Q)), q2, ⟨_, bd_frm q3 (by decide) (by decide) b2⟩, fun v => rfl⟩⟩
    · simp only [if_neg c1] at gV1 ⊢
      by_cases ceq : e.getD 0 0 = e.getD (te A e 0) 0
      · simp only [if_pos ceq]
        have gt : ∀ Q, ae_wp (d + 5) mX6_unify 45 [some (.ref (x + 15)), some (.int (nI (te A e 0))), some (.int (nI (e.getD 0 0))), some (.int (nI (e.getD (te A e 0) 0))), some (.int (nI (te A e (te A e 0))))] [] (ov H x c p y1) Q = ae_wp (d + 5) mX6_unify 119 [some (.ref (x + 15)), some (.int (nI (te A e 0))), some (.int (nI (e.getD 0 0))), some (.int (nI (e.getD (te A e 0) 0))), some (.int (nI (te A e (te A e 0))))] [] (ov H x c p y1) Q := fun Q => by
          rw [← ceq]
          simp (disch := first | exact ae_isR_ref _ | exact ae_isR_null | exact ae_isR_rf _ | exact ae_cat_ref _ | exact ae_cat_int _ | exact ae_cat_null | exact ae_cat_rf _ | exact ae_nz0 | exact ae_nz1 | exact ae_fz0 | exact ae_fz1 | exact cI_na (by omega) | exact cI_ix (by omega) | exact cI_nn (by omega) | exact cI_nz (by omega) | exact cI_cp (by omega) | assumption | omega) only [s_X6_unify_45, s_X6_unify_46, s_X6_unify_47, s_X6_unify_79, s_X6_unify_80, s_X6_unify_81, s_X6_unify_112, s_X6_unify_113, s_X6_unify_114, og_0, og_1, og_2, og_3, og_4, og_5, og_6, og_7, og_8, og_9, og_10, og_11, og_12, op_6, op_8, op_9, op_10, op_11, op_12, dg_0, dg_1, dg_2, dg_3, dp_1, dp_2, dp_3, ng_b, ng_d, mz_m, ms_m, ov_2, nset_d, nset_b, uI_1, uI_2, uR_1, uR_21, uR_22, va_rf, Bool.false_eq_true, ae_Ki, ae_Kb, ae_Kj, ae_Ka, ae_Si, ae_Sb, ae_Sj, ae_Sn, List.getElem?_cons_succ, List.getElem?_cons_zero, ↓reduceIte, if_true, if_false, nI_ofNat, true_or, or_true, false_or, or_false, true_and, and_true, false_and, and_false, or_self, and_self, not_true_eq_false, not_false_eq_true, eq_self, List.length_cons, List.length_nil, Nat.reduceAdd, Nat.reduceLT, Nat.reduceSub, List.set_cons_succ, List.set_cons_zero, Option.toList, List.nil_append, List.cons_append, cI_ltT, cI_ltF, cI_leT, cI_leF, cI_eqT, cI_eqF, cI_cl, cN_leT, cN_leF, cN_ltT, cN_ltF, cN_eqT, cN_eqF, cI_add, cI_sub, cI_m1a, cI_m1b, cI_m1c, cI_m1d, cI_m1e, cI_m1f]
        obtain ⟨y2, q1, q2, q3⟩ := tail y1 B (-1) (e.getD 0 0) false false (decide_eq_false c0).symm (decide_eq_false c1).symm (by rw [if_neg c0]) (fun z => by rcases z with z | z <;> cases z) (fun _ => rfl) (fun _ => by rw [ceq]) s2 hB1 s5 fr (by omega) s3 s4
        have hgr : ∀ (B : List Nat) (n i j : Nat), gar A e (-1) B n i j = gar A e (-1) [] n i j := by
          intro B n
          induction n with
          | zero => intro i j; rfl
          | succ n ih =>
            intro i j
            rw [gar, gar, sbx_m1s hns w1, sbx_m1s hns w1, sbx_m1s hns w1, sbx_m1s hns w1, ih]
        rw [pgl_ff, hgr, sbx_m1s hns w1, sbx_m1a hns w2] at q2
        exact ⟨y2, frm_trans hf1 (frm_mono q3 (by simp) (by simp) (by simp)), Or.inr ⟨_, _, _, _, _, _, _, fun Q => (hpre Q).trans ((gt Q).trans (q1 Q)), q2, ⟨B, bd_frm q3 (by decide) (by decide) hB1⟩, fun v => rfl⟩⟩
      · simp only [if_neg ceq]
        refine ⟨y1, hf1, Or.inl ⟨fun Q => (hpre Q).trans ?_, s2, ⟨B, hB1⟩, fun v => trivial⟩⟩
        simp (disch := first | exact ae_isR_ref _ | exact ae_isR_null | exact ae_isR_rf _ | exact ae_cat_ref _ | exact ae_cat_int _ | exact ae_cat_null | exact ae_cat_rf _ | exact ae_nz0 | exact ae_nz1 | exact ae_fz0 | exact ae_fz1 | exact cI_na (by omega) | exact cI_ix (by omega) | exact cI_nn (by omega) | exact cI_nz (by omega) | exact cI_cp (by omega) | assumption | omega) only [s_X6_unify_45, s_X6_unify_46, s_X6_unify_47, s_X6_unify_50, s_X6_unify_51, s_X6_unify_54, s_X6_unify_79, s_X6_unify_80, s_X6_unify_81, s_X6_unify_84, s_X6_unify_85, s_X6_unify_88, s_X6_unify_112, s_X6_unify_113, s_X6_unify_114, s_X6_unify_117, s_X6_unify_118, og_0, og_1, og_2, og_3, og_4, og_5, og_6, og_7, og_8, og_9, og_10, og_11, og_12, op_6, op_8, op_9, op_10, op_11, op_12, dg_0, dg_1, dg_2, dg_3, dp_1, dp_2, dp_3, ng_b, ng_d, mz_m, ms_m, ov_2, nset_d, nset_b, uI_1, uI_2, uR_1, uR_21, uR_22, va_rf, Bool.false_eq_true, ae_Ki, ae_Kb, ae_Kj, ae_Ka, ae_Si, ae_Sb, ae_Sj, ae_Sn, List.getElem?_cons_succ, List.getElem?_cons_zero, ↓reduceIte, if_true, if_false, nI_ofNat, true_or, or_true, false_or, or_false, true_and, and_true, false_and, and_false, or_self, and_self, not_true_eq_false, not_false_eq_true, eq_self, List.length_cons, List.length_nil, Nat.reduceAdd, Nat.reduceLT, Nat.reduceSub, List.set_cons_succ, List.set_cons_zero, Option.toList, List.nil_append, List.cons_append, cI_ltT, cI_ltF, cI_leT, cI_leF, cI_eqT, cI_eqF, cI_cl, cN_leT, cN_leF, cN_ltT, cN_ltF, cN_eqT, cN_eqF, cI_add, cI_sub, cI_m1a, cI_m1b, cI_m1c, cI_m1d, cI_m1e, cI_m1f, gV0, gV1]
end UNK
