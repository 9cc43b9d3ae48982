/-! NarrowSolver$Solver: rewrite, narrow, workOn -/
theorem rn_hpl {ns : Nat} {A : Nat → Nat} (hns : ns ≤ 24) (h0 : ∀ x, ns ≤ x → A x = 0) : ∀ (l : List Nat) (n : Nat), rn A (hpl l) n = rn A l n := by
  intro l
  induction l with
  | nil => intro n; rfl
  | cons x l ih =>
    intro n
    rw [hpl_cons]
    simp only [rn]
    have e : A (if 100 ≤ x then 99 else x) = A x := by
      by_cases c : 100 ≤ x
      · rw [if_pos c, h0 99 (by omega), h0 x (by omega)]
      · rw [if_neg c]
    rw [e, ih]
theorem te_all {A : Nat → Nat} {p : List Nat} (h : rn A p 1 = some 0) : te A p 0 = p.length := by
  obtain ⟨t1, t2, t3, t4, t5⟩ := rn_te (A := A) (l := p) (i := 0) (m := 0) (by simpa using h)
  rcases Nat.lt_or_ge (te A p 0) p.length with z | z
  · rw [drop_cons z] at t5
    have := (rn_pos t5).1
    omega
  · omega
theorem wlk_end {A : Nat → Nat} {e p : List Nat} {i m : Nat} (h99 : A 99 = 0) (hp : rn A p 1 = some 0) (hm : mtc A e p i) (hr : rn A (e.drop i) (m + 1) = some 0) : wlk A e p i = te A e i := by
  have := wlk_te (A := A) (l := e) (p := p) (i0 := i) (a := 0) (m := 0) (m2 := m) h99 hm (by simpa using hp) (by simpa [wlk] using hr)
  rw [te_all hp, List.take_length] at this
  exact this
theorem rhs_len {A : Nat → Nat} {e l : List Nat} {at_ : Nat} (he : e.length ≤ 300) : ∀ r : List Nat, (rhs A e l at_ r).length ≤ 300 * r.length := by
  intro r
  induction r with
  | nil => exact Nat.le_refl _
  | cons z r ih =>
    simp only [rhs, List.flatMap_cons, List.length_append, List.length_cons] at ih ⊢
    have h1 : (if 100 ≤ z then sl e ((mp2 A e l at_ z).getD 0) (te A e ((mp2 A e l at_ z).getD 0)) else [z]).length ≤ 300 := by
      split
      · simp only [sl, List.length_take, List.length_drop]; omega
      · simp
    omega
section WRK
variable {d : Nat} {Q : Option Value → ah_H → Prop} {G : ah_H} {x c p : Nat} {P : Nat → Option Nat} {y : rS} {fw : Nat} {v : sV} {e a : List Nat} {mn fr : Nat} {E : Nat → Prop} {A : Nat → Nat} {ns : Nat} {ar fn : Nat → Int32} {F : Nat → Bool} {rl : mR}
theorem ov_E (hS : cS G x P c p y fw v) (hd : dis E G x P) {b : Nat} (hb : E b) (yy : rS) : (ov G x c p yy).1 b = G.1 b := by
  obtain ⟨h1, h2, h3⟩ := hd b hb
  have := h3 71 p hS.2.1
  exact ov_out (by omega)
theorem m_X6_rewrite (hA : arl A ns ar) (hw : wfq ns A (e, a, mn, fr)) (hg : rgo ns A rl) (hgu : rgu ns rl) (hS : cS G x P c p y fw v) (hc : prbk G c (e, a, mn, fr)) (hs : sym G (x + 1) ns ar fn) (hd : dis E G x P) {ra r at_ : Nat} (hr : r < rl.length) (hru : rul E G ra ((rat rl r).1.take (rat rl r).2) ((rat rl r).1.drop (rat rl r).2)) (hat : at_ < e.length) (hm : mtc A e (hpl ((rat rl r).1.take (rat rl r).2)) at_) : ∃ G2 P2 p2 y2 k, (∀ Q, ae_wm (d + 4) mX6_rewrite [.ref (x + 15), .int (nI at_), .ref ra] G Q = Q (some (.int (nI 1))) G2) ∧ cS G2 x P2 c p2 y2 fw (usm A e a mn fr v (rat rl r) at_) ∧ frG G G2 x P P2 k := by
  obtain ⟨wl, wm⟩ := wfq_ans hw
  have hw0 := hw
  obtain ⟨w1, w2, w3, w4, w5, w6, w7⟩ := hw0
  dsimp only at w1 w2 w3 w4 w5 w6 w7 wl wm
  have hns := hA.1
  have h99 := hA.2.2 99 (by omega)
  have hac := rn_acm w3
  have hS0 := hS
  obtain ⟨s1, s2, s3, s4, s5, s6, s7, s8, s9⟩ := hS0
  obtain ⟨g0, hcu⟩ := cur_of hS hc
  obtain ⟨B, hB⟩ := s8
  have hp := hcu.1
  obtain ⟨u1, u2, u3⟩ := hgu r hr
  obtain ⟨q1, q2, q3, q4⟩ := hg.2 r hr
  obtain ⟨e0, e1, e2, e3, e4, h1, ⟨gl, h2, h3⟩, gr, h4, h5⟩ := hru
  obtain ⟨m1, hm1⟩ : ∃ m1, rn A (e.drop at_) (m1 + 1) = some 0 := by
    obtain ⟨m, r1, r2⟩ := rn_drop at_ _ w3 (by omega)
    exact ⟨m - 1, by rw [show m - 1 + 1 = m by have := r2 hat; omega]; exact r1⟩
  have hrx : rat rl r = ((rat rl r).1, (rat rl r).2) := rfl
  have hlrn : rn A (hpl ((rat rl r).1.take (rat rl r).2)) 1 = some 0 := by
    rw [rn_hpl hns hA.2.2, q4]
    have := (rn_te (A := A) (l := (rat rl r).1) (i := 0) (m := 1) (by simpa using q3)).2.2.2.1
    simpa [sl] using this
  have hend := wlk_end h99 hlrn hm hm1
  unfold usm
  generalize hrow : (rat rl r).1 = row at *
  generalize hls : (rat rl r).2 = ls at *
  have hkt : ∀ i, i < (row.take ls).length → knw ns ((row.take ls).getD i 0) = true := fun i hi => by
    rw [List.length_take] at hi
    rw [List.getD_eq_getElem?_getD, List.getElem?_take_of_lt (by omega), ← List.getD_eq_getElem?_getD]
    exact u1 i (by omega)
  have hkd : ∀ i, i < (row.drop ls).length → knw ns ((row.drop ls).getD i 0) = true := fun i hi => by
    rw [List.length_drop] at hi
    rw [List.getD_eq_getElem?_getD, List.getElem?_drop, ← List.getD_eq_getElem?_getD]
    exact u1 _ (by omega)
  have hl120 : (row.take ls).length ≤ 120 := by rw [List.length_take]; omega
  have hr120 : (row.drop ls).length ≤ 120 := by rw [List.length_drop]; omega
  have hra : ∀ yy, (ov G x c p yy).1 ra = some (.inr (4, [.ref (ra + 1), .ref (ra + 3)])) := fun yy => by rw [ov_E hS hd e0]; exact h1
  have hnl : ∀ yy, nmb (ov G x c p yy) (ra + 1) (row.take ls).length gl (row.take ls).length := fun yy => ⟨by rw [ov_E hS hd e1]; exact h2.1, by rw [show ra + 1 + 1 = ra + 2 from rfl, ov_E hS hd e2]; exact h2.2⟩
  have hnr : ∀ yy, nmb (ov G x c p yy) (ra + 3) (row.drop ls).length gr (row.drop ls).length := fun yy => ⟨by rw [ov_E hS hd e3]; exact h4.1, by rw [show ra + 3 + 1 = ra + 4 from rfl, ov_E hS hd e4]; exact h4.2⟩
  have gM := fun Q => m_X6_match (d := d + 1) (Q := Q) (H := G) (y := uI y 11 (y.1 11 + nI 1)) hcu hs hA w1 w2 hac hnl h3 hl120 hkt (by omega : at_ ≤ e.length) hm
  rw [hend] at gM
  obtain ⟨L0, hL0⟩ := dr_any (uR (uI y 11 (y.1 11 + nI 1)) 1 (mpl A e (row.take ls) at_ (y.2.1 1)))
  obtain ⟨y3, a1, a2, a3, a4, a5, a6⟩ := m_X6_startDraft (d := d + 2) (H := G) hcu hL0
  have y2d : (uR (uI y 11 (y.1 11 + nI 1)) 1 (mpl A e (row.take ls) at_ (y.2.1 1))).2.1 1 = mpl A e (row.take ls) at_ (y.2.1 1) := by simp [uR, uI]
  have hB2 : bd (uR (uI y 11 (y.1 11 + nI 1)) 1 (mpl A e (row.take ls) at_ (y.2.1 1))) B := ⟨hB.1, by simpa [uR, uI] using hB.2.1, hB.2.2⟩
  have hB3 := bd_frm a6 (by decide) (by decide) hB2
  obtain ⟨sz3, t1, t2⟩ := a2
  have hcl := hcu.2.2.2.2.2.2
  have hcr := hcu.2.2.2.2.2.1
  have hll : (e ++ a).length = e.length + a.length := List.length_append
  have hz3 := t2.1
  obtain ⟨f4, sz4, k1, k2, k3⟩ := m_X1_putAll (d := d + 2) (h := ov G x c p y3) (q := p + 1) (o := c + 1) (m := 300) (g := g0) (l := e ++ a) (nmb_d hp t1) (by omega) (by simp at hz3; omega) (cu_n (y := y3) hcu) (by have := hcu.2.2.1; omega) hcr hcl (by omega) (i := 0) (j := at_) (by omega) (by omega)
  simp only [nset_d hp] at k1
  have k2 := k2 _ t2
  rw [sl_app1 (by omega), List.nil_append] at k2
  have hf34 : frm y3 (uI (uR y3 2 f4) 31 (nI sz4)) [31] [2] [] := ⟨fun t ht => by
    simp only [List.mem_cons, List.not_mem_nil, or_false] at ht
    simp [uI, uR, ht], fun t ht => by
    simp only [List.mem_cons, List.not_mem_nil, or_false] at ht
    simp [uI, uR, ht], fun _ _ => rfl⟩
  have hmt3 : (uI (uR y3 2 f4) 31 (nI sz4)).2.1 1 = mpl A e (row.take ls) at_ (y.2.1 1) := by rw [hf34.2.1 1 (by decide), a6.2.1 1 (by decide), y2d]
  have hslat := sl_len (l := e) (a := 0) (b := at_)
  obtain ⟨y5, x5, x6, x7, l1, l2, l3⟩ := m_X6_rw_loop (d := d + 2) (H := G) hcu hs hA w1 w2 hac (ra := ra) (at_ := at_) (l := row.take ls) (r := row.drop ls) (gr := gr) hra hnr h5 hr120 hkd (l3 := some (.int (nI (te A e at_)))) (row.drop ls).length 0 (sl e 0 at_) (uI (uR y3 2 f4) 31 (nI sz4)) none none none (by omega) ⟨sz4, by simp [uI], by simpa [uI, uR] using k2⟩ (fun z hz hz1 => by
    obtain ⟨xx, x1, x2⟩ := mp2_in (A := A) (e := e) (row.take ls) at_ z (fun w hw => by
      have := kn1_iff.mp q2 w (List.mem_of_mem_take hw)
      omega) hm (u2 z hz hz1) hz1
    refine ⟨xx, x1, x2, ?_⟩
    rw [hmt3, mpl_eq _ _ _ _ hz1, x1]) (by omega)
  rw [List.drop_zero] at l2
  have hB5 := bd_frm l3 (by decide) (by decide) (bd_frm hf34 (by decide) (by decide) hB3)
  have hv5 : y5.1 8 = -1 := by rw [l3.1 8 (by decide), hf34.1 8 (by decide)]; exact a5
  have hrl := rhs_len (A := A) (l := row.take ls) (at_ := at_) (show e.length ≤ 300 by omega) (row.drop ls)
  obtain ⟨y6, sz6, c1, c2, c3, c4, c5⟩ := m_X6_finishDraft (d := d) (H := G) (y := y5) hcu (i := te A e at_) (te_le A e (by omega)) l2 hB5 hv5 (by rw [List.length_append]; omega)
  rw [sbx_m1s hns w1, sbx_m1a hns w2, List.append_assoc (sl e 0 at_)] at c2
  rw [sbx_m1s hns w1, List.append_assoc] at c4
  have hfy : frm (uR (uI y 11 (y.1 11 + nI 1)) 1 (mpl A e (row.take ls) at_ (y.2.1 1))) y6 [8, 20, 21, 22, 31] [2] [] := frm_trans (frm_mono a6 (by simp) (by simp) (by simp)) (frm_trans (frm_mono hf34 (by simp) (by simp) (by simp)) (frm_trans (frm_mono l3 (by simp) (by simp) (by simp)) (frm_mono c5 (by simp) (by simp) (by simp))))
  have hrd : rdy y6 (sl e 0 at_ ++ (rhs A e (row.take ls) at_ (row.drop ls) ++ sl e (te A e at_) e.length)) a mn fr := ⟨c2, by rw [c5.1 20 (by decide), l3.1 20 (by decide), hf34.1 20 (by decide)]; exact a3, by rw [c5.1 22 (by decide), l3.1 22 (by decide), hf34.1 22 (by decide)]; exact a4, sz6, c3, c4⟩
  have hyc : ∀ i, i = 9 ∨ i = 10 ∨ i = 12 → y6.1 i = y.1 i := fun i hi => by
    rcases hi with z | z | z <;> subst z <;> rw [hfy.1 _ (by decide)] <;> simp [uR, uI]
  have hy11 : y6.1 11 = y.1 11 + nI 1 := by rw [hfy.1 11 (by decide)]; simp [uR, uI]
  obtain ⟨hS6, hf6⟩ := cS_y (y2 := y6) (v2 := (v.1, v.2.1, v.2.2.1, v.2.2.2.1, v.2.2.2.2.1 + nI 1, v.2.2.2.2.2)) hS rfl rfl ⟨by rw [hyc 9 (by simp)]; exact s7.1, by rw [hyc 10 (by simp)]; exact s7.2.1, by rw [hy11, s7.2.2.1], by rw [hyc 12 (by simp)]; exact s7.2.2.2⟩ ⟨B, bd_frm hfy (by decide) (by decide) hB2⟩
  have hsr := sl_len (l := e) (a := te A e at_) (b := e.length)
  obtain ⟨G7, P7, p7, y7, k7, d1, d2, d3⟩ := m_X6_deliver (d := d) hS6 hrd (by omega) (by omega) (fun z => by omega) (by simp only [List.length_append]; omega)
  have hf7 := frG_trans hf6 d3
  rw [Nat.zero_add] at hf7
  refine ⟨G7, P7, p7, y7, k7, fun Q => ?_, d2, hf7⟩
  have hgo : ae_wm (d + 4) mX6_rewrite [.ref (x + 15), .int (nI at_), .ref ra] (ov G x c p y) Q = Q (some (.int (nI 1))) G7 := by
    have hg4l : ∀ yy (K : Value → Prop), ae_gw (ov G x c p yy) ra 4 0 K = K (.ref (ra + 1)) := fun yy K => by unfold ae_gw; rw [hra yy]; rfl
    simp (disch := first | exact ae_isR_ref _ | exact ae_isR_null | exact ae_isR_rf _ | exact ae_cat_ref _ | exact ae_cat_int _ | exact ae_cat_null | exact ae_cat_rf _ | exact ae_nz0 | exact ae_nz1 | exact ae_fz0 | exact ae_fz1 | exact cI_na (by omega) | exact cI_ix (by omega) | exact cI_nn (by omega) | exact cI_nz (by omega) | exact cI_cp (by omega) | assumption | omega) only [s_X6_rewrite_0, e_X6_rewrite, s_X6_rewrite_1, s_X6_rewrite_6, s_X6_rewrite_7, s_X6_rewrite_8, s_X6_rewrite_11, s_X6_rewrite_12, s_X6_rewrite_13, s_X6_rewrite_16, s_X6_rewrite_17, s_X6_rewrite_18, s_X6_rewrite_19, s_X6_rewrite_22 ov_15, s_X6_rewrite_25, s_X6_rewrite_26, s_X6_rewrite_27 ov_15, s_X6_rewrite_30, s_X6_rewrite_31, s_X6_rewrite_34, s_X6_rewrite_37, s_X6_rewrite_38, s_X6_rewrite_41, s_X6_rewrite_44, s_X6_rewrite_45, s_X6_rewrite_46 (ov_p1 hp), s_X6_rewrite_49, s_X6_rewrite_50, l1, s_X6_rewrite_162, s_X6_rewrite_163, s_X6_rewrite_164 ov_15, s_X6_rewrite_167, s_X6_rewrite_168 ov_15, s_X6_rewrite_171, s_X6_rewrite_172, og_0, og_1, og_2, og_3, og_4, og_5, og_6, og_7, og_8, og_9, og_10, og_11, og_12, op_6, op_8, op_9, op_10, op_11, op_12, dg_0, dg_1, dg_2, dg_3, dp_1, dp_2, dp_3, ng_b, ng_d, mz_m, ms_m, ov_2, nset_d, nset_b, uI_1, uI_2, uR_1, uR_21, uR_22, va_rf, Bool.false_eq_true, ae_Ki, ae_Kb, ae_Kj, ae_Ka, ae_Si, ae_Sb, ae_Sj, ae_Sn, List.getElem?_cons_succ, List.getElem?_cons_zero, ↓reduceIte, if_true, if_false, nI_ofNat, true_or, or_true, false_or, or_false, true_and, and_true, false_and, and_false, or_self, and_self, not_true_eq_false, not_false_eq_true, eq_self, List.length_cons, List.length_nil, Nat.reduceAdd, Nat.reduceLT, Nat.reduceSub, List.set_cons_succ, List.set_cons_zero, Option.toList, List.nil_append, List.cons_append, cI_ltT, cI_ltF, cI_leT, cI_leF, cI_eqT, cI_eqF, cI_cl, cN_leT, cN_leF, cN_ltT, cN_ltF, cN_eqT, cN_eqF, cI_add, cI_sub, cI_m1a, cI_m1b, cI_m1c, cI_m1d, cI_m1e, cI_m1f, hg4l, cg_0 hcu, gM, a1, k1, c1, d1]
  rw [← s4] at hgo
  exact hgo
theorem m_X6_narrow (hA : arl A ns ar) (hEs : E (x + 1) ∧ E (x + 2) ∧ E (x + 3)) (hw : wfq ns A (e, a, mn, fr)) {xx : Nat} (hxx : 100 ≤ xx ∧ xx < 256) {pp : List Nat} {S : Int64} {k fu n : Nat} {fc : Value} (hn : nfl G n 5 = some fc) (hk : kch G (nod E G A rl ns fu) (kid A rl pp k S) (chs A rl ns pp k S) fc) (hS : cS G x P c p y fw v) (hc : prbk G c (e, a, mn, fr)) (hs : sym G (x + 1) ns ar fn) (hd : dis E G x P) : ∃ G2 P2 p2 y2 k2, (∀ Q, ae_wm (d + 4) mX6_narrow [.ref (x + 15), .int (nI xx), .ref n] G Q = Q none G2) ∧ cS G2 x P2 c p2 y2 fw (ptm A e a mn fr xx v (chs A rl ns pp k S)) ∧ frG G G2 x P P2 k2 := by
  obtain ⟨G2, P2, p2, y2, k2, i1, i2, i3⟩ := m_X6_nw_loop (d := d) (fw := fw) hA hEs hw hxx (g := fun G => nod E G A rl ns fu) (u := kid A rl pp k S) (fun G G2 hE b q T hb => ⟨nod_cg hE _ _ _ _ hb, hE b (nod_E hb)⟩) (l2 := some (.ref n)) (chs A rl ns pp k S) fc G P p y v (fun c hc => (chs_ok.2 c hc).1) hk hS hc hs hd
  refine ⟨G2, P2, p2, y2, k2, fun Q => ?_, i2, i3⟩
  have hR := kch_isR _ _ hk
  simp (disch := first | exact ae_isR_ref _ | exact ae_isR_null | exact ae_isR_rf _ | exact ae_cat_ref _ | exact ae_cat_int _ | exact ae_cat_null | exact ae_cat_rf _ | exact ae_nz0 | exact ae_nz1 | exact ae_fz0 | exact ae_fz1 | exact cI_na (by omega) | exact cI_ix (by omega) | exact cI_nn (by omega) | exact cI_nz (by omega) | exact cI_cp (by omega) | assumption | omega) only [s_X6_narrow_0, s_X6_narrow_1, s_X6_narrow_4, e_X6_narrow, og_0, og_1, og_2, og_3, og_4, og_5, og_6, og_7, og_8, og_9, og_10, og_11, og_12, op_6, op_8, op_9, op_10, op_11, op_12, dg_0, dg_1, dg_2, dg_3, dp_1, dp_2, dp_3, ng_b, ng_d, mz_m, ms_m, ov_2, nset_d, nset_b, uI_1, uI_2, uR_1, uR_21, uR_22, va_rf, Bool.false_eq_true, ae_Ki, ae_Kb, ae_Kj, ae_Ka, ae_Si, ae_Sb, ae_Sj, ae_Sn, List.getElem?_cons_succ, List.getElem?_cons_zero, ↓reduceIte, if_true, if_false, nI_ofNat, true_or, or_true, false_or, or_false, true_and, and_true, false_and, and_false, or_self, and_self, not_true_eq_false, not_false_eq_true, eq_self, List.length_cons, List.length_nil, Nat.reduceAdd, Nat.reduceLT, Nat.reduceSub, List.set_cons_succ, List.set_cons_zero, Option.toList, List.nil_append, List.cons_append, cI_ltT, cI_ltF, cI_leT, cI_leF, cI_eqT, cI_eqF, cI_cl, cN_leT, cN_leF, cN_ltT, cN_ltF, cN_eqT, cN_eqF, cI_add, cI_sub, cI_m1a, cI_m1b, cI_m1c, cI_m1d, cI_m1e, cI_m1f, gw_nfl hn, i1]
theorem m_X6_wk_loop (hA : arl A ns ar) (hF : fnl F ns fn) (hEs : E (x + 1) ∧ E (x + 2) ∧ E (x + 3)) (hw : wfq ns A (e, a, mn, fr)) (hg : rgo ns A rl) (hgu : rgu ns rl) (hS : cS G x P c p y fw v) (hc : prbk G c (e, a, mn, fr)) (hs : sym G (x + 1) ns ar fn) (hd : dis E G x P) (hR : rlk E G x A ns rl) {l1 : Option Value} : ∀ (f i at_ : Nat) (pp : List Nat) (S : Int64) (vn : Value) (l5 l6 : Option Value), i + f = 36000 → 0 < f → at_ < e.length → mtc A e pp at_ → ((S ≠ 0 ∧ wfp ns A rl pp S ∧ (e.length - at_) * 120 + (120 - (pp.length - hol pp)) + 1 < f ∧ ∃ n fu, vn = .ref n ∧ nod E (ov G x c p y) A rl ns fu n pp S) ∨ (S = 0 ∧ vn = .null)) → ∃ b G2 P2 p2 y2 k, (∀ Q, ae_wp (d + 6) mX6_workOn 11 [some (.ref (x + 15)), l1, some (.int (nI at_)), some vn, some (.int (nI i)), l5, l6] [] (ov G x c p y) Q = Q (some (.int b)) G2) ∧ frG G G2 x P P2 k ∧ ((b = nI 1 ∧ cS G2 x P2 c p2 y2 fw (wkm A F rl ns e a mn fr v f at_ pp S)) ∨ (b = nI 0 ∧ cS G2 x P2 c p2 y2 fw v ∧ wkm A F rl ns e a mn fr v f at_ pp S = flm v)) := by
  obtain ⟨wl, wm⟩ := wfq_ans hw
  have hw0 := hw
  obtain ⟨w1, w2, w3, w4, w5, w6, w7⟩ := hw0
  dsimp only at w1 w2 w3 w4 w5 w6 w7 wl wm
  have hns := hA.1
  have h99 := hA.2.2 99 (by omega)
  have hac := rn_acm w3
  have hS0 := hS
  obtain ⟨s1, s2, s3, s4, s5, s6, s7, s8, s9⟩ := hS0
  obtain ⟨g0, hcu⟩ := cur_of hS hc
  have hp := hcu.1
  have hcl := hcu.2.2.2.2.2.2
  have hcr := hcu.2.2.2.2.2.1
  have hll : (e ++ a).length = e.length + a.length := List.length_append
  have hsml : sml (e ++ a) := fun i hi => by
    have := kn1_app w1 w2 i hi
    omega
  have hRo : rlk E (ov G x c p y) x A ns rl := by rw [← s4]; exact hR
  have hso := sym_ov (c := c) (y := y) hp hs
  have hrl40 := hg.1
  intro f
  induction f with
  | zero => intro i at_ pp S vn l5 l6 _ h0; omega
  | succ f ih =>
    intro i at_ pp S vn l5 l6 hi h0 hat hmt hcase
    have hi36 : i < 36000 := by omega
    rw [wkm]
    rcases hcase with ⟨c0, hwp, hms, n, fu, hvn, hnod⟩ | ⟨c0, hvn⟩
    · rw [if_neg c0]
      subst hvn
      obtain ⟨pl1, pl2⟩ := wfp_len hg hwp
      have hwp0 := hwp
      obtain ⟨p1, p2, p3, p4, p5, p6⟩ := hwp0
      cases fu with
      | zero => exact hnod.elim
      | succ fu =>
        obtain ⟨hEn, hnod⟩ := hnod
        have hnodc : ∃ fs, (ov G x c p y).1 n = some (.inr (0, fs)) := by
          by_cases cl : isl A rl pp S = true
          · rw [if_pos cl] at hnod; exact nfl_cls hnod.1
          · rw [if_neg cl] at hnod
            obtain ⟨k, fc, k1, k2, k3, k4, k5⟩ := hnod
            exact nfl_cls k3
        obtain ⟨nfs, hncl⟩ := hnodc
        by_cases cl : isl A rl pp S = true
        · rw [if_pos cl] at hnod ⊢
          obtain ⟨k1, k2, k3⟩ := leaf_hpl hns hA.2.2 hg hwp cl
          obtain ⟨e6, e7, e8, sp, lf, tf, r1, r2, r3, r4, r5⟩ := hRo
          obtain ⟨ra, ra1, ra2⟩ := r4 _ k1
          have gI := fun Q => m_X0_isLeaf (d := d + 5) (Q := Q) hnod.1 (by decide)
          have gT := fun Q => m_X5_at (d := d + 5) (Q := Q) (r := fsr S) r1 r2 k1 hrl40
          rw [ra1] at gT
          have ra3 : rul E G ra ((rat rl (fsr S)).1.take (rat rl (fsr S)).2) ((rat rl (fsr S)).1.drop (rat rl (fsr S)).2) := by rw [s4]; exact ra2
          obtain ⟨G2, P2, p2', y2, kk, q1, q2, q3⟩ := m_X6_rewrite (d := d + 1) hA hw hg hgu hS hc hs hd k1 ra3 hat (by rw [k3]; exact hmt)
          refine ⟨nI 1, G2, P2, p2', y2, kk, fun Q => ?_, q3, Or.inl ⟨rfl, q2⟩⟩
          have q1' : ∀ Q, ae_wm (d + 5) mX6_rewrite [.ref (x + 15), .int (nI at_), .ref ra] (ov G x c p y) Q = Q (some (.int (nI 1))) G2 := fun Q => by rw [← s4]; exact q1 Q
          simp (disch := first | exact ae_isR_ref _ | exact ae_isR_null | exact ae_isR_rf _ | exact ae_cat_ref _ | exact ae_cat_int _ | exact ae_cat_null | exact ae_cat_rf _ | exact ae_nz0 | exact ae_nz1 | exact ae_fz0 | exact ae_fz1 | exact cI_na (by omega) | exact cI_ix (by omega) | exact cI_nn (by omega) | exact cI_nz (by omega) | exact cI_cp (by omega) | assumption | omega) only [s_X6_workOn_11, s_X6_workOn_13, s_X6_workOn_15, s_X6_workOn_18, s_X6_workOn_19, s_X6_workOn_22, s_X6_workOn_23 hncl, s_X6_workOn_26, s_X6_workOn_29, s_X6_workOn_30, s_X6_workOn_31, s_X6_workOn_32, s_X6_workOn_35, s_X6_workOn_36, s_X6_workOn_39 r1, s_X6_workOn_42 ov_15, s_X6_workOn_45, og_0, og_1, og_2, og_3, og_4, og_5, og_6, og_7, og_8, og_9, og_10, og_11, og_12, op_6, op_8, op_9, op_10, op_11, op_12, dg_0, dg_1, dg_2, dg_3, dp_1, dp_2, dp_3, ng_b, ng_d, mz_m, ms_m, ov_2, nset_d, nset_b, uI_1, uI_2, uR_1, uR_21, uR_22, va_rf, Bool.false_eq_true, ae_Ki, ae_Kb, ae_Kj, ae_Ka, ae_Si, ae_Sb, ae_Sj, ae_Sn, List.getElem?_cons_succ, List.getElem?_cons_zero, ↓reduceIte, if_true, if_false, nI_ofNat, true_or, or_true, false_or, or_false, true_and, and_true, false_and, and_false, or_self, and_self, not_true_eq_false, not_false_eq_true, eq_self, List.length_cons, List.length_nil, Nat.reduceAdd, Nat.reduceLT, Nat.reduceSub, List.set_cons_succ, List.set_cons_zero, Option.toList, List.nil_append, List.cons_append, cI_ltT, cI_ltF, cI_leT, cI_leF, cI_eqT, cI_eqF, cI_cl, cN_leT, cN_leF, cN_ltT, cN_ltF, cN_eqT, cN_eqF, cI_add, cI_sub, cI_m1a, cI_m1b, cI_m1c, cI_m1d, cI_m1e, cI_m1f, gI, gw_nfl hnod.2, gT, q1']
        · rw [if_neg cl] at hnod ⊢
          obtain ⟨k, fc, hb, k2, k3, k4, k5⟩ := hnod
          rw [hb]
          dsimp only
          obtain ⟨b1, b2, b3, b4, b5⟩ := bro_at (ns := ns) hb
          have hlo : loc A e pp k at_ = some (wlk A e (pp.take (jof pp k)) at_) := by rw [loc_hix, b2]; rfl
          rw [hlo, Option.getD_some]
          obtain ⟨q1, q2⟩ := mtc_at hmt b3
          have q3 := wlk_adv _ _ (mtc_take (j := jof pp k) hmt)
          have q4 : 0 < jof pp k := by
            rcases Nat.eq_zero_or_pos (jof pp k) with z | z
            · rw [z] at b4; exact absurd b4 p3
            · exact z
          rw [List.length_take, show min (jof pp k) pp.length = jof pp k by omega] at q3
          obtain ⟨m1, hm1⟩ : ∃ m1, rn A (e.drop at_) (m1 + 1) = some 0 := by
            obtain ⟨m, r1, r2⟩ := rn_drop at_ _ w3 (by omega)
            exact ⟨m - 1, by rw [show m - 1 + 1 = m by have := r2 hat; omega]; exact r1⟩
          have hvp := pds_vp p1 b3
          have hdg := vpt_dig (fun x => arl_le hA x) _ _ _ hvp
          have hne : pds A pp (jof pp k) ≠ [] := fun z => by
            rw [z] at hvp
            have hvp : 0 = jof pp k := hvp
            omega
          have hp0 := plv_pos hdg hne
          have hp8 := plv_lt _ hdg
          have hp9 : (10 : Nat) ^ (pds A pp (jof pp k)).length ≤ 10 ^ 8 := Nat.pow_le_pow_right (by decide) k2
          have hp10 : (10 : Nat) ^ 8 = 100000000 := by decide
          obtain ⟨ma1, ma2⟩ := wlk_app (a := a) hac pp at_ hmt
          obtain ⟨ma3, ma4⟩ := wlk_app (a := a) hac (pp.take (jof pp k)) at_ (mtc_take hmt)
          have hrl2 : rn A ((e ++ a).drop at_) (m1 + 1 + 10) = some 0 := by
            rw [List.drop_append_of_le_length (by omega)]
            exact rn_two hm1 w4
          have hfo := (vpt_fol (l := e ++ a) (i0 := at_) h99 ma1 (pds A pp (jof pp k)) 0 (jof pp k) 0 (m1 + 10) (by simpa using p1) (by
            rw [List.take_zero]
            show rn A ((e ++ a).drop at_) (m1 + 10 + 1) = some 0
            rw [show m1 + 10 + 1 = m1 + 1 + 10 by omega]; exact hrl2) hvp).1
          have hokf := vpt_okf (l := e ++ a) (i0 := at_) h99 ma1 (pds A pp (jof pp k)) 0 (jof pp k) 0 (m1 + 10) (by simpa using p1) (by
            rw [List.take_zero]
            show rn A ((e ++ a).drop at_) (m1 + 10 + 1) = some 0
            rw [show m1 + 10 + 1 = m1 + 1 + 10 by omega]; exact hrl2) hvp
          have hfo : fol A (e ++ a) (pds A pp (jof pp k)) at_ = wlk A e (pp.take (jof pp k)) at_ := by
            rw [← ma4]; exact hfo
          have hokf : okf A (e ++ a) (pds A pp (jof pp k)) at_ := hokf
          have gF := fun Q => m_X7_follow (d := d + 3) (Q := Q) hso hA (cu_n (y := y) hcu) (by omega) hcl hcr hsml hdg k2 (by omega : at_ ≤ (e ++ a).length) hokf
          rw [hfo] at gF
          have gI := fun Q => m_X0_isLeaf (d := d + 5) (Q := Q) k3 (by omega)
          rw [if_neg (by omega)] at gI
          generalize hsub : wlk A e (pp.take (jof pp k)) at_ = sub at *
          have gA := fun Q => m_X1_at_l (d := d + 5) (Q := Q) (i := sub) (cu_n (y := y) hcu) (by omega) hcr (by omega) hcl
          rw [getD_app1 q1] at gA
          have khd := w1 sub q1
          have gV := fun (h : ah_H) Q => m_X10_isVariable (d := d + 5) (Q := Q) (h := h) (v := e.getD sub 0) (by omega)
          by_cases c1 : 100 ≤ e.getD sub 0
          · rw [if_pos c1]
            simp only [if_pos c1] at gV
            have k4' : nfl G n 5 = some fc := by
              have h := k4
              rw [← s4] at h
              exact h
            have k5' : kch G (nod E G A rl ns fu) (kid A rl pp k S) (chs A rl ns pp k S) fc := by
              have h := k5
              rw [← s4] at h
              exact h
            obtain ⟨G2, P2, p2', y2, kk, z1, z2, z3⟩ := m_X6_narrow (d := d + 1) hA hEs hw (xx := e.getD sub 0) (by omega) k4' k5' hS hc hs hd
            have z1' : ∀ Q, ae_wm (d + 5) mX6_narrow [.ref (x + 15), .int (nI (e.getD sub 0)), .ref n] (ov G x c p y) Q = Q none G2 := fun Q => by rw [← s4]; exact z1 Q
            refine ⟨nI 1, G2, P2, p2', y2, kk, fun Q => ?_, z3, Or.inl ⟨rfl, z2⟩⟩
            simp (disch := first | exact ae_isR_ref _ | exact ae_isR_null | exact ae_isR_rf _ | exact ae_cat_ref _ | exact ae_cat_int _ | exact ae_cat_null | exact ae_cat_rf _ | exact ae_nz0 | exact ae_nz1 | exact ae_fz0 | exact ae_fz1 | exact cI_na (by omega) | exact cI_ix (by omega) | exact cI_nn (by omega) | exact cI_nz (by omega) | exact cI_cp (by omega) | assumption | omega) only [s_X6_workOn_11, s_X6_workOn_13, s_X6_workOn_15, s_X6_workOn_18, s_X6_workOn_19, s_X6_workOn_22, s_X6_workOn_23 hncl, s_X6_workOn_26, s_X6_workOn_46, s_X6_workOn_47, s_X6_workOn_50, s_X6_workOn_51, s_X6_workOn_54, s_X6_workOn_57, s_X6_workOn_58, s_X6_workOn_59, s_X6_workOn_62 hso.1, s_X6_workOn_65, s_X6_workOn_67, s_X6_workOn_68, s_X6_workOn_71, s_X6_workOn_74, s_X6_workOn_76 (cu_n hcu).1, s_X6_workOn_79, s_X6_workOn_81, s_X6_workOn_83, s_X6_workOn_86, s_X6_workOn_89, s_X6_workOn_90, s_X6_workOn_92, s_X6_workOn_93 ov_15, s_X6_workOn_96, s_X6_workOn_97, og_0, og_1, og_2, og_3, og_4, og_5, og_6, og_7, og_8, og_9, og_10, og_11, og_12, op_6, op_8, op_9, op_10, op_11, op_12, dg_0, dg_1, dg_2, dg_3, dp_1, dp_2, dp_3, ng_b, ng_d, mz_m, ms_m, ov_2, nset_d, nset_b, uI_1, uI_2, uR_1, uR_21, uR_22, va_rf, Bool.false_eq_true, ae_Ki, ae_Kb, ae_Kj, ae_Ka, ae_Si, ae_Sb, ae_Sj, ae_Sn, List.getElem?_cons_succ, List.getElem?_cons_zero, ↓reduceIte, if_true, if_false, nI_ofNat, true_or, or_true, false_or, or_false, true_and, and_true, false_and, and_false, or_self, and_self, not_true_eq_false, not_false_eq_true, eq_self, List.length_cons, List.length_nil, Nat.reduceAdd, Nat.reduceLT, Nat.reduceSub, List.set_cons_succ, List.set_cons_zero, Option.toList, List.nil_append, List.cons_append, cI_ltT, cI_ltF, cI_leT, cI_leF, cI_eqT, cI_eqF, cI_cl, cN_leT, cN_leF, cN_ltT, cN_ltF, cN_eqT, cN_eqF, cI_add, cI_sub, cI_m1a, cI_m1b, cI_m1c, cI_m1d, cI_m1e, cI_m1f, cg_0 hcu, gI, gw_nfl k3, gF, gA, gV, z1']
          · rw [if_neg c1]
            simp only [if_neg c1] at gV
            have hlt : e.getD sub 0 < ns := by omega
            have gFn := fun Q => m_X7_isFunction (d := d + 5) (Q := Q) (v := e.getD sub 0) hso hns (by omega) hF
            by_cases c2 : F (e.getD sub 0) = true
            · rw [if_pos c2] at gFn ⊢
              obtain ⟨v2, t1, t2⟩ := m_X6_rootFor (d := d + 1) (H := G) (y := y) hcu hns hRo q1 hlt
              obtain ⟨m2, hm2⟩ : ∃ m2, rn A (e.drop sub) (m2 + 1) = some 0 := by
                obtain ⟨m, r1, r2⟩ := rn_drop sub _ w3 (by omega)
                exact ⟨m - 1, by rw [show m - 1 + 1 = m by have := r2 q1; omega]; exact r1⟩
              obtain ⟨b, G2, P2, p2', y2, kk, i1, i2, i3⟩ := ih (i + 1) sub (bgn A (e.getD sub 0)) (rof rl (e.getD sub 0)) v2 (some (.int (nI sub))) (some (.int (nI (e.getD sub 0)))) (by omega) (by omega) q1 (bgn_mtc hns hm2 hlt) (by
                rcases t2 with ⟨y1, n2, y2', y3⟩ | ⟨y1, y2'⟩
                · refine Or.inl ⟨y1, bgn_wfp h99 hns hg hlt y1, ?_, n2, 120, y2', y3⟩
                  rw [bgn_hol A (by omega)]
                  omega
                · exact Or.inr ⟨y1, y2'⟩)
              have hvR : ae_isR v2 = true := by
                rcases t2 with ⟨_, n2, y2', _⟩ | ⟨_, y2'⟩
                · rw [y2']; rfl
                · rw [y2']; rfl
              refine ⟨b, G2, P2, p2', y2, kk, fun Q => ?_, i2, i3⟩
              refine Eq.trans ?_ (s_X6_workOn_132.trans (i1 Q))
              simp (disch := first | exact ae_isR_ref _ | exact ae_isR_null | exact ae_isR_rf _ | exact ae_cat_ref _ | exact ae_cat_int _ | exact ae_cat_null | exact ae_cat_rf _ | exact ae_nz0 | exact ae_nz1 | exact ae_fz0 | exact ae_fz1 | exact cI_na (by omega) | exact cI_ix (by omega) | exact cI_nn (by omega) | exact cI_nz (by omega) | exact cI_cp (by omega) | assumption | omega) only [s_X6_workOn_11, s_X6_workOn_13, s_X6_workOn_15, s_X6_workOn_18, s_X6_workOn_19, s_X6_workOn_22, s_X6_workOn_23 hncl, s_X6_workOn_26, s_X6_workOn_46, s_X6_workOn_47, s_X6_workOn_50, s_X6_workOn_51, s_X6_workOn_54, s_X6_workOn_57, s_X6_workOn_58, s_X6_workOn_59, s_X6_workOn_62 hso.1, s_X6_workOn_65, s_X6_workOn_67, s_X6_workOn_68, s_X6_workOn_71, s_X6_workOn_74, s_X6_workOn_76 (cu_n hcu).1, s_X6_workOn_79, s_X6_workOn_81, s_X6_workOn_83, s_X6_workOn_86, s_X6_workOn_98, s_X6_workOn_99, s_X6_workOn_102, s_X6_workOn_104 hso.1, s_X6_workOn_107, s_X6_workOn_110, s_X6_workOn_112, s_X6_workOn_113, s_X6_workOn_114, s_X6_workOn_115 ov_15, s_X6_workOn_118, s_X6_workOn_119, s_X6_workOn_129, og_0, og_1, og_2, og_3, og_4, og_5, og_6, og_7, og_8, og_9, og_10, og_11, og_12, op_6, op_8, op_9, op_10, op_11, op_12, dg_0, dg_1, dg_2, dg_3, dp_1, dp_2, dp_3, ng_b, ng_d, mz_m, ms_m, ov_2, nset_d, nset_b, uI_1, uI_2, uR_1, uR_21, uR_22, va_rf, Bool.false_eq_true, ae_Ki, ae_Kb, ae_Kj, ae_Ka, ae_Si, ae_Sb, ae_Sj, ae_Sn, List.getElem?_cons_succ, List.getElem?_cons_zero, ↓reduceIte, if_true, if_false, nI_ofNat, true_or, or_true, false_or, or_false, true_and, and_true, false_and, and_false, or_self, and_self, not_true_eq_false, not_false_eq_true, eq_self, List.length_cons, List.length_nil, Nat.reduceAdd, Nat.reduceLT, Nat.reduceSub, List.set_cons_succ, List.set_cons_zero, Option.toList, List.nil_append, List.cons_append, cI_ltT, cI_ltF, cI_leT, cI_leF, cI_eqT, cI_eqF, cI_cl, cN_leT, cN_leF, cN_ltT, cN_ltF, cN_eqT, cN_eqF, cI_add, cI_sub, cI_m1a, cI_m1b, cI_m1c, cI_m1d, cI_m1e, cI_m1f, cg_0 hcu, gI, gw_nfl k3, gF, gA, gV, gFn, t1]
            · rw [if_neg c2] at gFn ⊢
              obtain ⟨v2, t1, t2⟩ := m_X0_childFor (d := d + 5) (h := ov G x c p y) (w := e.getD sub 0) (by omega) k4 (fun c hc => by have := (chs_ok.2 c hc).1; omega) k5
              have hhp := hol_le pp
              have hrl := rfa_len (A := A) (c := e.getD sub 0) b3
              have hrh := rfa_hol (A := A) b3 b4 (show e.getD sub 0 ≠ 99 by omega)
              obtain ⟨m2, hm2⟩ : ∃ m2, rn A (e.drop sub) (m2 + 1) = some 0 := by
                obtain ⟨m, r1, r2⟩ := rn_drop sub _ w3 (by omega)
                exact ⟨m - 1, by rw [show m - 1 + 1 = m by have := r2 q1; omega]; exact r1⟩
              have hkm : mtc A e (kid A rl pp k S (e.getD sub 0)).1 at_ := rfa_mtc hmt b3 b4 (by omega) (by rw [hsub]) (by rw [hsub]; exact hm2)
              have hcm : ∀ z : wia A rl pp k S (e.getD sub 0) ≠ 0, e.getD sub 0 ∈ chs A rl ns pp k S := fun z => List.mem_filter.mpr ⟨List.mem_range.mpr hlt, decide_eq_true z⟩
              obtain ⟨b, G2, P2, p2', y2, kk, i1, i2, i3⟩ := ih (i + 1) at_ (kid A rl pp k S (e.getD sub 0)).1 (kid A rl pp k S (e.getD sub 0)).2 v2 (some (.int (nI sub))) (some (.int (nI (e.getD sub 0)))) (by omega) (by omega) hat hkm (by
                rcases t2 with ⟨y1, n2, y2', y3⟩ | ⟨y1, y2'⟩
                · have hz := (chs_ok.2 _ y1).2
                  have hwk := kid_wfp h99 hns hg hwp hb hlt hz
                  refine Or.inl ⟨hz, hwk, ?_, n2, fu, y2', y3⟩
                  have := (wfp_len hg hwk).2
                  simp only [kid] at this ⊢
                  omega
                · refine Or.inr ⟨?_, y2'⟩
                  apply Classical.byContradiction
                  intro z
                  exact y1 (hcm z))
              have hvR : ae_isR v2 = true := by
                rcases t2 with ⟨_, n2, y2', _⟩ | ⟨_, y2'⟩
                · rw [y2']; rfl
                · rw [y2']; rfl
              refine ⟨b, G2, P2, p2', y2, kk, fun Q => ?_, i2, i3⟩
              refine Eq.trans ?_ (s_X6_workOn_132.trans (i1 Q))
              simp (disch := first | exact ae_isR_ref _ | exact ae_isR_null | exact ae_isR_rf _ | exact ae_cat_ref _ | exact ae_cat_int _ | exact ae_cat_null | exact ae_cat_rf _ | exact ae_nz0 | exact ae_nz1 | exact ae_fz0 | exact ae_fz1 | exact cI_na (by omega) | exact cI_ix (by omega) | exact cI_nn (by omega) | exact cI_nz (by omega) | exact cI_cp (by omega) | assumption | omega) only [s_X6_workOn_11, s_X6_workOn_13, s_X6_workOn_15, s_X6_workOn_18, s_X6_workOn_19, s_X6_workOn_22, s_X6_workOn_23 hncl, s_X6_workOn_26, s_X6_workOn_46, s_X6_workOn_47, s_X6_workOn_50, s_X6_workOn_51, s_X6_workOn_54, s_X6_workOn_57, s_X6_workOn_58, s_X6_workOn_59, s_X6_workOn_62 hso.1, s_X6_workOn_65, s_X6_workOn_67, s_X6_workOn_68, s_X6_workOn_71, s_X6_workOn_74, s_X6_workOn_76 (cu_n hcu).1, s_X6_workOn_79, s_X6_workOn_81, s_X6_workOn_83, s_X6_workOn_86, s_X6_workOn_98, s_X6_workOn_99, s_X6_workOn_102, s_X6_workOn_104 hso.1, s_X6_workOn_107, s_X6_workOn_122, s_X6_workOn_123, s_X6_workOn_125 hncl, s_X6_workOn_128, s_X6_workOn_129, og_0, og_1, og_2, og_3, og_4, og_5, og_6, og_7, og_8, og_9, og_10, og_11, og_12, op_6, op_8, op_9, op_10, op_11, op_12, dg_0, dg_1, dg_2, dg_3, dp_1, dp_2, dp_3, ng_b, ng_d, mz_m, ms_m, ov_2, nset_d, nset_b, uI_1, uI_2, uR_1, uR_21, uR_22, va_rf, Bool.false_eq_true, ae_Ki, ae_Kb, ae_Kj, ae_Ka, ae_Si, ae_Sb, ae_Sj, ae_Sn, List.getElem?_cons_succ, List.getElem?_cons_zero, ↓reduceIte, if_true, if_false, nI_ofNat, true_or, or_true, false_or, or_false, true_and, and_true, false_and, and_false, or_self, and_self, not_true_eq_false, not_false_eq_true, eq_self, List.length_cons, List.length_nil, Nat.reduceAdd, Nat.reduceLT, Nat.reduceSub, List.set_cons_succ, List.set_cons_zero, Option.toList, List.nil_append, List.cons_append, cI_ltT, cI_ltF, cI_leT, cI_leF, cI_eqT, cI_eqF, cI_cl, cN_leT, cN_leF, cN_ltT, cN_ltF, cN_eqT, cN_eqF, cI_add, cI_sub, cI_m1a, cI_m1b, cI_m1c, cI_m1d, cI_m1e, cI_m1f, cg_0 hcu, gI, gw_nfl k3, gF, gA, gV, gFn, t1]
    · rw [if_pos c0]
      subst hvn
      have hSo : cS (ov G x c p y) x P c p y fw v := by rw [← s4]; exact hS
      refine ⟨nI 0, ov G x c p y, P, p, y, 0, fun Q => ?_, by rw [← s4]; exact frG_refl _ _ _, Or.inr ⟨rfl, hSo, rfl⟩⟩
      simp (disch := first | exact ae_isR_ref _ | exact ae_isR_null | exact ae_isR_rf _ | exact ae_cat_ref _ | exact ae_cat_int _ | exact ae_cat_null | exact ae_cat_rf _ | exact ae_nz0 | exact ae_nz1 | exact ae_fz0 | exact ae_fz1 | exact cI_na (by omega) | exact cI_ix (by omega) | exact cI_nn (by omega) | exact cI_nz (by omega) | exact cI_cp (by omega) | assumption | omega) only [s_X6_workOn_11, s_X6_workOn_13, s_X6_workOn_15, s_X6_workOn_18, s_X6_workOn_19_N, s_X6_workOn_135, s_X6_workOn_136, og_0, og_1, og_2, og_3, og_4, og_5, og_6, og_7, og_8, og_9, og_10, og_11, og_12, op_6, op_8, op_9, op_10, op_11, op_12, dg_0, dg_1, dg_2, dg_3, dp_1, dp_2, dp_3, ng_b, ng_d, mz_m, ms_m, ov_2, nset_d, nset_b, uI_1, uI_2, uR_1, uR_21, uR_22, va_rf, Bool.false_eq_true, ae_Ki, ae_Kb, ae_Kj, ae_Ka, ae_Si, ae_Sb, ae_Sj, ae_Sn, List.getElem?_cons_succ, List.getElem?_cons_zero, ↓reduceIte, if_true, if_false, nI_ofNat, true_or, or_true, false_or, or_false, true_and, and_true, false_and, and_false, or_self, and_self, not_true_eq_false, not_false_eq_true, eq_self, List.length_cons, List.length_nil, Nat.reduceAdd, Nat.reduceLT, Nat.reduceSub, List.set_cons_succ, List.set_cons_zero, Option.toList, List.nil_append, List.cons_append, cI_ltT, cI_ltF, cI_leT, cI_leF, cI_eqT, cI_eqF, cI_cl, cN_leT, cN_leF, cN_ltT, cN_ltF, cN_eqT, cN_eqF, cI_add, cI_sub, cI_m1a, cI_m1b, cI_m1c, cI_m1d, cI_m1e, cI_m1f]
end WRK
