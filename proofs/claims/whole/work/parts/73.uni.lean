/-! NarrowSolver$Solver: bind, finishDraft, standsOpenly, putArguments -/
theorem sl_app1 {e a : List Nat} {i j : Nat} (hj : j ≤ e.length) : sl (e ++ a) i j = sl e i j := by
  unfold sl
  by_cases c : i ≤ e.length
  · rw [List.drop_append_of_le_length c, List.take_append_of_le_length (by rw [List.length_drop]; omega)]
  · rw [show j - i = 0 by omega]; rfl
theorem sl_app2 {e a : List Nat} : sl (e ++ a) e.length (e ++ a).length = a := by
  rw [sl_end, List.drop_left]
theorem getD_app1 {e a : List Nat} {i : Nat} (h : i < e.length) : (e ++ a).getD i 0 = e.getD i 0 := by
  simp [List.getD_eq_getElem?_getD, List.getElem?_append_left h]
theorem stn_fuel {A : Nat → Nat} {F : Nat → Bool} {e : List Nat} {v : Int32} {b : Nat} (hb : b ≤ e.length) : ∀ (m m2 k : Nat), b ≤ k + m → b ≤ k + m2 → stn A F e v m k b = stn A F e v m2 k b := by
  intro m
  induction m with
  | zero =>
    intro m2 k h1 h2
    cases m2 with
    | zero => rfl
    | succ m2 => rw [stn, stn, if_neg (by omega)]
  | succ m ih =>
    intro m2 k h1 h2
    cases m2 with
    | zero => rw [stn, stn, if_neg (by omega)]
    | succ m2 =>
      rw [stn, stn]
      by_cases c : k < b
      · rw [if_pos c, if_pos c]
        by_cases c2 : nI (e.getD k 0) = v
        · rw [if_pos c2, if_pos c2]
        · rw [if_neg c2, if_neg c2]
          have := te_gt (A := A) (l := e) (i := k) (by omega)
          by_cases c3 : F (e.getD k 0) = true
          · rw [if_pos c3]; exact ih _ _ (by omega) (by omega)
          · rw [if_neg c3]; exact ih _ _ (by omega) (by omega)
      · rw [if_neg c, if_neg c]
section UNI
variable {d : Nat} {Q : Option Value → ah_H → Prop} {H : ah_H} {x c p : Nat} {y : rS} {g : Nat → Int32} {e a B L : List Nat} {mn fr : Nat} {A : Nat → Nat} {ns : Nat} {ar fn : Nat → Int32} {F : Nat → Bool}
theorem m_X6_bd_loop (hc : cur H x c p g e a mn fr) (hs : sym H (x + 1) ns ar fn) (hA : arl A ns ar) {hd : Nat} (hh : hd < 256) {fr0 : Nat} (hf : fr0 ≤ 100) {l1 : Option Value} : ∀ (k i : Nat) (y : rS), i + k = A hd → y.1 30 = nI (i + 1) → rowl ((bnd A fr0 hd).take (i + 1)) (y.2.1 0) → y.1 22 = nI (fr0 + i) → ∃ y2, (∀ Q, ae_wp (d + 1) mX6_bind 22 [some (.ref (x + 15)), l1, some (.int (nI hd)), some (.int (nI i))] [] (ov H x c p y) Q = Q none (ov H x c p y2)) ∧ bd y2 (bnd A fr0 hd) ∧ y2.1 22 = nI (fr0 + A hd) ∧ frm y y2 [22, 30] [0] [] := by
  have hp := hc.1
  have hA3 := arl_le hA hd
  have hbl : (bnd A fr0 hd).length = A hd + 1 := by simp [bnd]
  intro k
  induction k with
  | zero =>
    intro i y hi h30 hr h22
    have e1 : i = A hd := by omega
    subst e1
    rw [List.take_of_length_le (by omega)] at hr
    refine ⟨y, fun Q => ?_, ⟨by rw [hbl]; exact h30, hr, by omega⟩, h22, frm_refl _ _ _ _⟩
    have gA := fun Q => m_X7_argumentsOf (d := d) (Q := Q) (v := hd) (sym_ov (c := c) (y := y) hp hs) hA (by omega)
    simp (disch := first | exact ae_isR_ref _ | exact ae_isR_null | exact ae_isR_rf _ | exact ae_cat_ref _ | exact ae_cat_int _ | exact ae_cat_null | exact ae_cat_rf _ | exact ae_nz0 | exact ae_nz1 | exact ae_fz0 | exact ae_fz1 | exact cI_na (by omega) | exact cI_ix (by omega) | exact cI_nn (by omega) | exact cI_nz (by omega) | exact cI_cp (by omega) | assumption | omega) only [s_X6_bind_22, s_X6_bind_23, s_X6_bind_24, s_X6_bind_27, s_X6_bind_28 (sym_ov hp hs).1, s_X6_bind_31, s_X6_bind_70, og_0, og_1, og_2, og_3, og_4, og_5, og_6, og_7, og_8, og_9, og_10, og_11, og_12, op_6, op_8, op_9, op_10, op_11, op_12, dg_0, dg_1, dg_2, dg_3, dp_1, dp_2, dp_3, ng_b, ng_d, mz_m, ms_m, ov_2, nset_d, nset_b, uI_1, uI_2, uR_1, uR_21, uR_22, va_rf, Bool.false_eq_true, ae_Ki, ae_Kb, ae_Kj, ae_Ka, ae_Si, ae_Sb, ae_Sj, ae_Sn, List.getElem?_cons_succ, List.getElem?_cons_zero, ↓reduceIte, if_true, if_false, nI_ofNat, true_or, or_true, false_or, or_false, true_and, and_true, false_and, and_false, or_self, and_self, not_true_eq_false, not_false_eq_true, eq_self, List.length_cons, List.length_nil, Nat.reduceAdd, Nat.reduceLT, Nat.reduceSub, List.set_cons_succ, List.set_cons_zero, Option.toList, List.nil_append, List.cons_append, cI_ltT, cI_ltF, cI_leT, cI_leF, cI_eqT, cI_eqF, cI_cl, cN_leT, cN_leF, cN_ltT, cN_ltF, cN_eqT, cN_eqF, cI_add, cI_sub, cI_m1a, cI_m1b, cI_m1c, cI_m1d, cI_m1e, cI_m1f, gA]
  | succ k ih =>
    intro i y hi h30 hr h22
    have gA := fun Q => m_X7_argumentsOf (d := d) (Q := Q) (v := hd) (sym_ov (c := c) (y := y) hp hs) hA (by omega)
    have gP := fun Q => m_X1_put (d := d) (Q := Q) (v := nI (100 + (fr0 + i))) (nmb_b (H := H) (x := x) (c := c) (p := p) (y := y) h30) (by omega) (by omega)
    rw [if_pos (by omega)] at gP
    simp only [nset_b hp] at gP
    have hlt : (bnd A fr0 hd).take (i + 1) = (bnd A fr0 hd).take (i + 1) := rfl
    have e1 : (bnd A fr0 hd).take (i + 1 + 1) = (bnd A fr0 hd).take (i + 1) ++ [100 + (fr0 + i)] := by
      rw [take_succ_getD (by omega), Nat.add_comm i 1, bnd_at (by omega)]
      congr 2
      omega
    have e2 : ((bnd A fr0 hd).take (i + 1)).length = i + 1 := by rw [List.length_take]; omega
    obtain ⟨y2, i1, i2, i3, i4⟩ := ih (i + 1) (uI (uI (uR y 0 (upd (y.2.1 0) (i + 1) (nI (100 + (fr0 + i))))) 30 (nI (i + 1 + 1))) 22 (nI (fr0 + i + 1))) (by omega) (by simp [uI]) (by
      rw [e1]
      have := rowl_snoc (v := 100 + (fr0 + i)) hr
      rw [e2] at this
      simpa [uI, uR] using this) (by simp [uI, Nat.add_assoc])
    refine ⟨y2, fun Q => ?_, i2, i3, frm_trans (s2 := uI (uI (uR y 0 (upd (y.2.1 0) (i + 1) (nI (100 + (fr0 + i))))) 30 (nI (i + 1 + 1))) 22 (nI (fr0 + i + 1))) ⟨fun t ht => ?_, fun t ht => ?_, fun _ _ => rfl⟩ i4⟩
    · refine Eq.trans ?_ (s_X6_bind_67.trans (i1 Q))
      simp (disch := first | exact ae_isR_ref _ | exact ae_isR_null | exact ae_isR_rf _ | exact ae_cat_ref _ | exact ae_cat_int _ | exact ae_cat_null | exact ae_cat_rf _ | exact ae_nz0 | exact ae_nz1 | exact ae_fz0 | exact ae_fz1 | exact cI_na (by omega) | exact cI_ix (by omega) | exact cI_nn (by omega) | exact cI_nz (by omega) | exact cI_cp (by omega) | assumption | omega) only [s_X6_bind_22, s_X6_bind_23, s_X6_bind_24, s_X6_bind_27, s_X6_bind_28 (sym_ov hp hs).1, s_X6_bind_31, s_X6_bind_34, s_X6_bind_35, s_X6_bind_38, s_X6_bind_40, s_X6_bind_41, s_X6_bind_44, s_X6_bind_47, s_X6_bind_48 ov_20, s_X6_bind_51, s_X6_bind_52, s_X6_bind_55, s_X6_bind_56, s_X6_bind_59, s_X6_bind_60, s_X6_bind_61, s_X6_bind_64, og_0, og_1, og_2, og_3, og_4, og_5, og_6, og_7, og_8, og_9, og_10, og_11, og_12, op_6, op_8, op_9, op_10, op_11, op_12, dg_0, dg_1, dg_2, dg_3, dp_1, dp_2, dp_3, ng_b, ng_d, mz_m, ms_m, ov_2, nset_d, nset_b, uI_1, uI_2, uR_1, uR_21, uR_22, va_rf, Bool.false_eq_true, ae_Ki, ae_Kb, ae_Kj, ae_Ka, ae_Si, ae_Sb, ae_Sj, ae_Sn, List.getElem?_cons_succ, List.getElem?_cons_zero, ↓reduceIte, if_true, if_false, nI_ofNat, true_or, or_true, false_or, or_false, true_and, and_true, false_and, and_false, or_self, and_self, not_true_eq_false, not_false_eq_true, eq_self, List.length_cons, List.length_nil, Nat.reduceAdd, Nat.reduceLT, Nat.reduceSub, List.set_cons_succ, List.set_cons_zero, Option.toList, List.nil_append, List.cons_append, cI_ltT, cI_ltF, cI_leT, cI_leF, cI_eqT, cI_eqF, cI_cl, cN_leT, cN_leF, cN_ltT, cN_ltF, cN_eqT, cN_eqF, cI_add, cI_sub, cI_m1a, cI_m1b, cI_m1c, cI_m1d, cI_m1e, cI_m1f, gA, h22, gP]
    · simp only [List.mem_cons, List.not_mem_nil, or_false, not_or] at ht
      simp [uI, uR, ht]
    · simp only [List.mem_cons, List.not_mem_nil, or_false] at ht
      simp [uI, uR, ht]
theorem m_X6_bind (hc : cur H x c p g e a mn fr) (hs : sym H (x + 1) ns ar fn) (hA : arl A ns ar) {hd : Nat} (hh : hd < 256) {fr0 : Nat} (hf : fr0 ≤ 100) {v : Int32} {sz : Nat} (h30 : y.1 30 = nI sz) (hsz : sz < 100) (h22 : y.1 22 = nI fr0) : ∃ y2, (∀ Q, ae_wm (d + 1) mX6_bind [.ref (x + 15), .int v, .int (nI hd)] (ov H x c p y) Q = Q none (ov H x c p y2)) ∧ bd y2 (bnd A fr0 hd) ∧ y2.1 22 = nI (fr0 + A hd) ∧ y2.1 8 = v ∧ frm y y2 [8, 22, 30] [0] [] := by
  have hp := hc.1
  have gE := fun Q => m_X1_empty (d := d) (Q := Q) (nmb_b (H := H) (x := x) (c := c) (p := p) (y := uI y 8 v) (by simpa [uI] using h30 : (uI y 8 v).1 30 = nI sz))
  simp only [nset_b hp] at gE
  rw [show uR (uI y 8 v) 0 ((uI y 8 v).2.1 0) = uI y 8 v from uR_same _ _] at gE
  have gP := fun Q => m_X1_put (d := d) (Q := Q) (v := nI hd) (nmb_b (H := H) (x := x) (c := c) (p := p) (y := uI (uI y 8 v) 30 (nI 0)) (sz := 0) (by simp [uI])) (by omega) (by omega)
  rw [if_pos (by omega)] at gP
  simp only [nset_b hp] at gP
  obtain ⟨y2, i1, i2, i3, i4⟩ := m_X6_bd_loop (d := d) hc hs hA hh hf (l1 := some (.int v)) (A hd) 0 (uI (uR (uI (uI y 8 v) 30 (nI 0)) 0 (upd (y.2.1 0) 0 (nI hd))) 30 (nI 1)) (by omega) (by simp [uI]) (by
    have e1 : (bnd A fr0 hd).take (0 + 1) = [] ++ [hd] := rfl
    rw [e1]
    have := rowl_snoc (L := []) (f := y.2.1 0) (v := hd) (fun i hi => by simp at hi)
    simpa [uI, uR] using this) (by simpa [uI, uR] using h22)
  refine ⟨y2, fun Q => ?_, i2, i3, ?_, frm_trans (s2 := uI (uR (uI (uI y 8 v) 30 (nI 0)) 0 (upd (y.2.1 0) 0 (nI hd))) 30 (nI 1)) ⟨fun t ht => ?_, fun t ht => ?_, fun _ _ => rfl⟩ (frm_mono i4 (by simp) (by simp) (by simp))⟩
  · simp (disch := first | exact ae_isR_ref _ | exact ae_isR_null | exact ae_isR_rf _ | exact ae_cat_ref _ | exact ae_cat_int _ | exact ae_cat_null | exact ae_cat_rf _ | exact ae_nz0 | exact ae_nz1 | exact ae_fz0 | exact ae_fz1 | exact cI_na (by omega) | exact cI_ix (by omega) | exact cI_nn (by omega) | exact cI_nz (by omega) | exact cI_cp (by omega) | assumption | omega) only [s_X6_bind_0, s_X6_bind_1, s_X6_bind_2, s_X6_bind_5, s_X6_bind_6, s_X6_bind_9 ov_20, s_X6_bind_12, s_X6_bind_13, s_X6_bind_16, s_X6_bind_17 ov_20, s_X6_bind_20, s_X6_bind_21, e_X6_bind, og_0, og_1, og_2, og_3, og_4, og_5, og_6, og_7, og_8, og_9, og_10, og_11, og_12, op_6, op_8, op_9, op_10, op_11, op_12, dg_0, dg_1, dg_2, dg_3, dp_1, dp_2, dp_3, ng_b, ng_d, mz_m, ms_m, ov_2, nset_d, nset_b, uI_1, uI_2, uR_1, uR_21, uR_22, va_rf, Bool.false_eq_true, ae_Ki, ae_Kb, ae_Kj, ae_Ka, ae_Si, ae_Sb, ae_Sj, ae_Sn, List.getElem?_cons_succ, List.getElem?_cons_zero, ↓reduceIte, if_true, if_false, nI_ofNat, true_or, or_true, false_or, or_false, true_and, and_true, false_and, and_false, or_self, and_self, not_true_eq_false, not_false_eq_true, eq_self, List.length_cons, List.length_nil, Nat.reduceAdd, Nat.reduceLT, Nat.reduceSub, List.set_cons_succ, List.set_cons_zero, Option.toList, List.nil_append, List.cons_append, cI_ltT, cI_ltF, cI_leT, cI_leF, cI_eqT, cI_eqF, cI_cl, cN_leT, cN_leF, cN_ltT, cN_ltF, cN_eqT, cN_eqF, cI_add, cI_sub, cI_m1a, cI_m1b, cI_m1c, cI_m1d, cI_m1e, cI_m1f, gE, gP, i1]
  · rw [i4.1 8 (by decide)]
    simp [uI, uR]
  · simp only [List.mem_cons, List.not_mem_nil, or_false, not_or] at ht
    simp [uI, uR, ht]
  · simp only [List.mem_cons, List.not_mem_nil, or_false] at ht
    simp [uI, uR, ht]
theorem m_X6_finishDraft (hc : cur H x c p g e a mn fr) {v : Int32} {i : Nat} (hi : i ≤ e.length) (hd : dr y L) (hb : bd y B) (hv : y.1 8 = v) (hL : L.length < 700000) : ∃ y2 sz, (∀ Q, ae_wm (d + 3) mX6_finishDraft [.ref (x + 15), .int (nI i)] (ov H x c p y) Q = Q none (ov H x c p y2)) ∧ dr y2 (L ++ sbx v B (sl e i e.length) ++ sbx v B a) ∧ y2.1 21 = nI sz ∧ ((L ++ sbx v B (sl e i e.length)).length ≤ 300 → sz = (L ++ sbx v B (sl e i e.length)).length) ∧ frm y y2 [21, 31] [2] [] := by
  have hp := hc.1
  have hl := hc.2.2.2.2.2.2
  have hll : (e ++ a).length = e.length + a.length := List.length_append
  obtain ⟨y1, k1, k2, k3⟩ := m_X6_copyBound (d := d) (B := B) hc (i := i) (to := e.length) hi (by omega) hd hb hv (by omega)
  rw [sl_app1 (Nat.le_refl _)] at k2
  obtain ⟨sz, s1, s2⟩ := k2
  have hsl := sbx_len (v := v) hb.2.2 (sl e i e.length)
  have hsl2 := sl_len (l := e) (a := i) (b := e.length)
  have hf : frm y1 (uI y1 21 (nI sz)) [21] [] [] := frm_uI _ _ _
  obtain ⟨y2, j1, j2, j3⟩ := m_X6_copyBound (d := d) (B := B) (y := uI y1 21 (nI sz)) hc (i := e.length) (to := (e ++ a).length) (by omega) (Nat.le_refl _) (dr_frm hf (by decide) (by decide) ⟨sz, s1, s2⟩) (bd_frm hf (by decide) (by decide) (bd_frm k3 (by decide) (by decide) hb)) (v := v) (by
    show y1.1 8 = v
    rw [k3.1 8 (by decide)]; exact hv) (by rw [List.length_append]; omega)
  rw [sl_app2] at j2
  refine ⟨y2, sz, fun Q => ?_, j2, ?_, fun h3 => (s2.2.1 h3).1, frm_trans (frm_mono k3 (by simp) (by simp) (by simp)) (frm_trans (frm_mono hf (by simp) (by simp) (by simp)) (frm_mono j3 (by simp) (by simp) (by simp)))⟩
  · simp (disch := first | exact ae_isR_ref _ | exact ae_isR_null | exact ae_isR_rf _ | exact ae_cat_ref _ | exact ae_cat_int _ | exact ae_cat_null | exact ae_cat_rf _ | exact ae_nz0 | exact ae_nz1 | exact ae_fz0 | exact ae_fz1 | exact cI_na (by omega) | exact cI_ix (by omega) | exact cI_nn (by omega) | exact cI_nz (by omega) | exact cI_cp (by omega) | assumption | omega) only [s_X6_finishDraft_0, s_X6_finishDraft_1, s_X6_finishDraft_2, s_X6_finishDraft_3, s_X6_finishDraft_6, s_X6_finishDraft_9 ov_15, s_X6_finishDraft_12, s_X6_finishDraft_13, s_X6_finishDraft_16, s_X6_finishDraft_17, s_X6_finishDraft_20, s_X6_finishDraft_23, s_X6_finishDraft_26, s_X6_finishDraft_29, s_X6_finishDraft_30, s_X6_finishDraft_31, s_X6_finishDraft_34, s_X6_finishDraft_37, s_X6_finishDraft_38, s_X6_finishDraft_41, s_X6_finishDraft_44, s_X6_finishDraft_47 ov_15, s_X6_finishDraft_50, e_X6_finishDraft, og_0, og_1, og_2, og_3, og_4, og_5, og_6, og_7, og_8, og_9, og_10, og_11, og_12, op_6, op_8, op_9, op_10, op_11, op_12, dg_0, dg_1, dg_2, dg_3, dp_1, dp_2, dp_3, ng_b, ng_d, mz_m, ms_m, ov_2, nset_d, nset_b, uI_1, uI_2, uR_1, uR_21, uR_22, va_rf, Bool.false_eq_true, ae_Ki, ae_Kb, ae_Kj, ae_Ka, ae_Si, ae_Sb, ae_Sj, ae_Sn, List.getElem?_cons_succ, List.getElem?_cons_zero, ↓reduceIte, if_true, if_false, nI_ofNat, true_or, or_true, false_or, or_false, true_and, and_true, false_and, and_false, or_self, and_self, not_true_eq_false, not_false_eq_true, eq_self, List.length_cons, List.length_nil, Nat.reduceAdd, Nat.reduceLT, Nat.reduceSub, List.set_cons_succ, List.set_cons_zero, Option.toList, List.nil_append, List.cons_append, cI_ltT, cI_ltF, cI_leT, cI_leF, cI_eqT, cI_eqF, cI_cl, cN_leT, cN_leF, cN_ltT, cN_ltF, cN_eqT, cN_eqF, cI_add, cI_sub, cI_m1a, cI_m1b, cI_m1c, cI_m1d, cI_m1e, cI_m1f, cg_0 hc, cg_2 hc, cng hc, k1, s1, j1]
  · rw [j3.1 21 (by decide)]
    simp [uI]
theorem m_X6_so_loop (hc : cur H x c p g e a mn fr) (hs : sym H (x + 1) ns ar fn) (hA : arl A ns ar) (hF : fnl F ns fn) (hk : kn1 ns e) (hka : kn1 ns a) (hac : acm A e) {vv : Nat} (hvv : 100 ≤ vv ∧ vv < 256) {b : Nat} (hb : b ≤ e.length) {l2 : Option Value} : ∀ (k i hd : Nat) (l6 : Option Value), i + k = b → hd ≤ e.length → ae_wp (d + 2) mX6_standsOpenly 6 [some (.ref (x + 15)), some (.int (nI vv)), l2, some (.int (nI b)), some (.int (nI hd)), some (.int (nI i)), l6] [] (ov H x c p y) Q = Q (some (.int (if stn A F e (nI vv) (b - max i hd) (max i hd) b = true then nI 1 else nI 0))) (ov H x c p y) := by
  have hp := hc.1
  have hl := hc.2.2.2.2.2.2
  have hr := hc.2.2.2.2.2.1
  have hns := hA.1
  have hll : (e ++ a).length = e.length + a.length := List.length_append
  have hss := sym_ov (c := c) (y := y) hp hs
  have hsml : sml (e ++ a) := fun i hi => by
    have := kn1_app hk hka i hi
    omega
  intro k
  induction k with
  | zero =>
    intro i hd l6 hi hhd
    have e1 : stn A F e (nI vv) (b - max i hd) (max i hd) b = false := by
      rw [show b - max i hd = 0 by omega]; rfl
    rw [e1]
    simp (disch := first | exact ae_isR_ref _ | exact ae_isR_null | exact ae_isR_rf _ | exact ae_cat_ref _ | exact ae_cat_int _ | exact ae_cat_null | exact ae_cat_rf _ | exact ae_nz0 | exact ae_nz1 | exact ae_fz0 | exact ae_fz1 | exact cI_na (by omega) | exact cI_ix (by omega) | exact cI_nn (by omega) | exact cI_nz (by omega) | exact cI_cp (by omega) | assumption | omega) only [s_X6_standsOpenly_6, s_X6_standsOpenly_8, s_X6_standsOpenly_9, s_X6_standsOpenly_87, s_X6_standsOpenly_88, og_0, og_1, og_2, og_3, og_4, og_5, og_6, og_7, og_8, og_9, og_10, og_11, og_12, op_6, op_8, op_9, op_10, op_11, op_12, dg_0, dg_1, dg_2, dg_3, dp_1, dp_2, dp_3, ng_b, ng_d, mz_m, ms_m, ov_2, nset_d, nset_b, uI_1, uI_2, uR_1, uR_21, uR_22, va_rf, Bool.false_eq_true, ae_Ki, ae_Kb, ae_Kj, ae_Ka, ae_Si, ae_Sb, ae_Sj, ae_Sn, List.getElem?_cons_succ, List.getElem?_cons_zero, ↓reduceIte, if_true, if_false, nI_ofNat, true_or, or_true, false_or, or_false, true_and, and_true, false_and, and_false, or_self, and_self, not_true_eq_false, not_false_eq_true, eq_self, List.length_cons, List.length_nil, Nat.reduceAdd, Nat.reduceLT, Nat.reduceSub, List.set_cons_succ, List.set_cons_zero, Option.toList, List.nil_append, List.cons_append, cI_ltT, cI_ltF, cI_leT, cI_leF, cI_eqT, cI_eqF, cI_cl, cN_leT, cN_leF, cN_ltT, cN_ltF, cN_eqT, cN_eqF, cI_add, cI_sub, cI_m1a, cI_m1b, cI_m1c, cI_m1d, cI_m1e, cI_m1f]
  | succ k ih =>
    intro i hd l6 hi hhd
    have hie : i < e.length := by omega
    have gA := fun Q => m_X1_at_l (d := d + 1) (Q := Q) (i := i) (cu_n (y := y) hc) (by omega) hr (by omega) hl
    rw [getD_app1 hie] at gA
    have hki := hk i hie
    by_cases c1 : i < hd
    · have := ih (i + 1) hd (some (.int (nI (e.getD i 0)))) (by omega) hhd
      rw [show max (i + 1) hd = max i hd by omega] at this
      refine Eq.trans ?_ (s_X6_standsOpenly_84.trans this)
      simp (disch := first | exact ae_isR_ref _ | exact ae_isR_null | exact ae_isR_rf _ | exact ae_cat_ref _ | exact ae_cat_int _ | exact ae_cat_null | exact ae_cat_rf _ | exact ae_nz0 | exact ae_nz1 | exact ae_fz0 | exact ae_fz1 | exact cI_na (by omega) | exact cI_ix (by omega) | exact cI_nn (by omega) | exact cI_nz (by omega) | exact cI_cp (by omega) | assumption | omega) only [s_X6_standsOpenly_6, s_X6_standsOpenly_8, s_X6_standsOpenly_9, s_X6_standsOpenly_12, s_X6_standsOpenly_13, s_X6_standsOpenly_16, s_X6_standsOpenly_19, s_X6_standsOpenly_21 (cu_n hc).1, s_X6_standsOpenly_24, s_X6_standsOpenly_26, s_X6_standsOpenly_28, s_X6_standsOpenly_30, s_X6_standsOpenly_66, s_X6_standsOpenly_68, s_X6_standsOpenly_70, s_X6_standsOpenly_73, s_X6_standsOpenly_75, s_X6_standsOpenly_76, s_X6_standsOpenly_79, s_X6_standsOpenly_80, s_X6_standsOpenly_81, og_0, og_1, og_2, og_3, og_4, og_5, og_6, og_7, og_8, og_9, og_10, og_11, og_12, op_6, op_8, op_9, op_10, op_11, op_12, dg_0, dg_1, dg_2, dg_3, dp_1, dp_2, dp_3, ng_b, ng_d, mz_m, ms_m, ov_2, nset_d, nset_b, uI_1, uI_2, uR_1, uR_21, uR_22, va_rf, Bool.false_eq_true, ae_Ki, ae_Kb, ae_Kj, ae_Ka, ae_Si, ae_Sb, ae_Sj, ae_Sn, List.getElem?_cons_succ, List.getElem?_cons_zero, ↓reduceIte, if_true, if_false, nI_ofNat, true_or, or_true, false_or, or_false, true_and, and_true, false_and, and_false, or_self, and_self, not_true_eq_false, not_false_eq_true, eq_self, List.length_cons, List.length_nil, Nat.reduceAdd, Nat.reduceLT, Nat.reduceSub, List.set_cons_succ, List.set_cons_zero, Option.toList, List.nil_append, List.cons_append, cI_ltT, cI_ltF, cI_leT, cI_leF, cI_eqT, cI_eqF, cI_cl, cN_leT, cN_leF, cN_ltT, cN_ltF, cN_eqT, cN_eqF, cI_add, cI_sub, cI_m1a, cI_m1b, cI_m1c, cI_m1d, cI_m1e, cI_m1f, cg_0 hc, gA]
    · have em : max i hd = i := by omega
      rw [em]
      obtain ⟨m, hm⟩ : ∃ m, b - i = m + 1 := ⟨b - i - 1, by omega⟩
      have gF := fun Q => m_X7_isFunction (d := d + 1) (Q := Q) (v := e.getD i 0) hss hns (by omega) hF
      by_cases c2 : F (e.getD i 0) = true
      · have hlt : e.getD i 0 < ns := by
          rcases Nat.lt_or_ge (e.getD i 0) ns with z | z
          · exact z
          · rw [hF.2 _ z] at c2; cases c2
        rw [if_pos c2] at gF
        have gE := fun Q => m_X7_endOfTerm (d := d) (Q := Q) (i := i) hss hA (cu_n (y := y) hc) (by omega) hl hr hsml (by omega)
        rw [te_app (hac i hie)] at gE
        have htg := te_gt (A := A) hie
        have e1 : stn A F e (nI vv) (b - i) i b = stn A F e (nI vv) (b - max (i + 1) (te A e i)) (max (i + 1) (te A e i)) b := by
          rw [hm, stn, if_pos (by omega), if_neg (by rw [cI_eqF (by omega)]; exact id), if_pos c2, show max (i + 1) (te A e i) = te A e i by omega]
          exact stn_fuel hb _ _ _ (by omega) (by omega)
        rw [e1]
        refine Eq.trans ?_ (s_X6_standsOpenly_84.trans (ih (i + 1) (te A e i) (some (.int (nI (e.getD i 0)))) (by omega) (te_le A e (by omega))))
        simp (disch := first | exact ae_isR_ref _ | exact ae_isR_null | exact ae_isR_rf _ | exact ae_cat_ref _ | exact ae_cat_int _ | exact ae_cat_null | exact ae_cat_rf _ | exact ae_nz0 | exact ae_nz1 | exact ae_fz0 | exact ae_fz1 | exact cI_na (by omega) | exact cI_ix (by omega) | exact cI_nn (by omega) | exact cI_nz (by omega) | exact cI_cp (by omega) | assumption | omega) only [s_X6_standsOpenly_6, s_X6_standsOpenly_8, s_X6_standsOpenly_9, s_X6_standsOpenly_12, s_X6_standsOpenly_13, s_X6_standsOpenly_16, s_X6_standsOpenly_19, s_X6_standsOpenly_21 (cu_n hc).1, s_X6_standsOpenly_24, s_X6_standsOpenly_26, s_X6_standsOpenly_28, s_X6_standsOpenly_30, s_X6_standsOpenly_33, s_X6_standsOpenly_34, s_X6_standsOpenly_37, s_X6_standsOpenly_39 hss.1, s_X6_standsOpenly_42, s_X6_standsOpenly_45, s_X6_standsOpenly_46, s_X6_standsOpenly_49, s_X6_standsOpenly_50, s_X6_standsOpenly_53, s_X6_standsOpenly_56, s_X6_standsOpenly_58 hss.1, s_X6_standsOpenly_61, s_X6_standsOpenly_63, s_X6_standsOpenly_81, og_0, og_1, og_2, og_3, og_4, og_5, og_6, og_7, og_8, og_9, og_10, og_11, og_12, op_6, op_8, op_9, op_10, op_11, op_12, dg_0, dg_1, dg_2, dg_3, dp_1, dp_2, dp_3, ng_b, ng_d, mz_m, ms_m, ov_2, nset_d, nset_b, uI_1, uI_2, uR_1, uR_21, uR_22, va_rf, Bool.false_eq_true, ae_Ki, ae_Kb, ae_Kj, ae_Ka, ae_Si, ae_Sb, ae_Sj, ae_Sn, List.getElem?_cons_succ, List.getElem?_cons_zero, ↓reduceIte, if_true, if_false, nI_ofNat, true_or, or_true, false_or, or_false, true_and, and_true, false_and, and_false, or_self, and_self, not_true_eq_false, not_false_eq_true, eq_self, List.length_cons, List.length_nil, Nat.reduceAdd, Nat.reduceLT, Nat.reduceSub, List.set_cons_succ, List.set_cons_zero, Option.toList, List.nil_append, List.cons_append, cI_ltT, cI_ltF, cI_leT, cI_leF, cI_eqT, cI_eqF, cI_cl, cN_leT, cN_leF, cN_ltT, cN_ltF, cN_eqT, cN_eqF, cI_add, cI_sub, cI_m1a, cI_m1b, cI_m1c, cI_m1d, cI_m1e, cI_m1f, cg_0 hc, gA, gF, gE]
      · rw [if_neg c2] at gF
        by_cases c3 : e.getD i 0 = vv
        · have e1 : stn A F e (nI vv) (b - i) i b = true := by
            rw [hm, stn, if_pos (by omega), if_pos (by rw [c3])]
          rw [e1]
          rw [c3] at gF gA
          simp (disch := first | exact ae_isR_ref _ | exact ae_isR_null | exact ae_isR_rf _ | exact ae_cat_ref _ | exact ae_cat_int _ | exact ae_cat_null | exact ae_cat_rf _ | exact ae_nz0 | exact ae_nz1 | exact ae_fz0 | exact ae_fz1 | exact cI_na (by omega) | exact cI_ix (by omega) | exact cI_nn (by omega) | exact cI_nz (by omega) | exact cI_cp (by omega) | assumption | omega) only [s_X6_standsOpenly_6, s_X6_standsOpenly_8, s_X6_standsOpenly_9, s_X6_standsOpenly_12, s_X6_standsOpenly_13, s_X6_standsOpenly_16, s_X6_standsOpenly_19, s_X6_standsOpenly_21 (cu_n hc).1, s_X6_standsOpenly_24, s_X6_standsOpenly_26, s_X6_standsOpenly_28, s_X6_standsOpenly_30, s_X6_standsOpenly_33, s_X6_standsOpenly_34, s_X6_standsOpenly_37, s_X6_standsOpenly_39 hss.1, s_X6_standsOpenly_42, s_X6_standsOpenly_66, s_X6_standsOpenly_68, s_X6_standsOpenly_70, s_X6_standsOpenly_73, s_X6_standsOpenly_75, s_X6_standsOpenly_76, s_X6_standsOpenly_79, s_X6_standsOpenly_80, og_0, og_1, og_2, og_3, og_4, og_5, og_6, og_7, og_8, og_9, og_10, og_11, og_12, op_6, op_8, op_9, op_10, op_11, op_12, dg_0, dg_1, dg_2, dg_3, dp_1, dp_2, dp_3, ng_b, ng_d, mz_m, ms_m, ov_2, nset_d, nset_b, uI_1, uI_2, uR_1, uR_21, uR_22, va_rf, Bool.false_eq_true, ae_Ki, ae_Kb, ae_Kj, ae_Ka, ae_Si, ae_Sb, ae_Sj, ae_Sn, List.getElem?_cons_succ, List.getElem?_cons_zero, ↓reduceIte, if_true, if_false, nI_ofNat, true_or, or_true, false_or, or_false, true_and, and_true, false_and, and_false, or_self, and_self, not_true_eq_false, not_false_eq_true, eq_self, List.length_cons, List.length_nil, Nat.reduceAdd, Nat.reduceLT, Nat.reduceSub, List.set_cons_succ, List.set_cons_zero, Option.toList, List.nil_append, List.cons_append, cI_ltT, cI_ltF, cI_leT, cI_leF, cI_eqT, cI_eqF, cI_cl, cN_leT, cN_leF, cN_ltT, cN_ltF, cN_eqT, cN_eqF, cI_add, cI_sub, cI_m1a, cI_m1b, cI_m1c, cI_m1d, cI_m1e, cI_m1f, cg_0 hc, gA, gF]
        · have e1 : stn A F e (nI vv) (b - i) i b = stn A F e (nI vv) (b - max (i + 1) hd) (max (i + 1) hd) b := by
            rw [hm, stn, if_pos (by omega), if_neg (by rw [cI_eqF (by omega)]; exact id), if_neg c2, show max (i + 1) hd = i + 1 by omega]
            exact stn_fuel hb _ _ _ (by omega) (by omega)
          rw [e1]
          refine Eq.trans ?_ (s_X6_standsOpenly_84.trans (ih (i + 1) hd (some (.int (nI (e.getD i 0)))) (by omega) hhd))
          simp (disch := first | exact ae_isR_ref _ | exact ae_isR_null | exact ae_isR_rf _ | exact ae_cat_ref _ | exact ae_cat_int _ | exact ae_cat_null | exact ae_cat_rf _ | exact ae_nz0 | exact ae_nz1 | exact ae_fz0 | exact ae_fz1 | exact cI_na (by omega) | exact cI_ix (by omega) | exact cI_nn (by omega) | exact cI_nz (by omega) | exact cI_cp (by omega) | assumption | omega) only [s_X6_standsOpenly_6, s_X6_standsOpenly_8, s_X6_standsOpenly_9, s_X6_standsOpenly_12, s_X6_standsOpenly_13, s_X6_standsOpenly_16, s_X6_standsOpenly_19, s_X6_standsOpenly_21 (cu_n hc).1, s_X6_standsOpenly_24, s_X6_standsOpenly_26, s_X6_standsOpenly_28, s_X6_standsOpenly_30, s_X6_standsOpenly_33, s_X6_standsOpenly_34, s_X6_standsOpenly_37, s_X6_standsOpenly_39 hss.1, s_X6_standsOpenly_42, s_X6_standsOpenly_66, s_X6_standsOpenly_68, s_X6_standsOpenly_70, s_X6_standsOpenly_73, s_X6_standsOpenly_75, s_X6_standsOpenly_76, s_X6_standsOpenly_79, s_X6_standsOpenly_80, s_X6_standsOpenly_81, og_0, og_1, og_2, og_3, og_4, og_5, og_6, og_7, og_8, og_9, og_10, og_11, og_12, op_6, op_8, op_9, op_10, op_11, op_12, dg_0, dg_1, dg_2, dg_3, dp_1, dp_2, dp_3, ng_b, ng_d, mz_m, ms_m, ov_2, nset_d, nset_b, uI_1, uI_2, uR_1, uR_21, uR_22, va_rf, Bool.false_eq_true, ae_Ki, ae_Kb, ae_Kj, ae_Ka, ae_Si, ae_Sb, ae_Sj, ae_Sn, List.getElem?_cons_succ, List.getElem?_cons_zero, ↓reduceIte, if_true, if_false, nI_ofNat, true_or, or_true, false_or, or_false, true_and, and_true, false_and, and_false, or_self, and_self, not_true_eq_false, not_false_eq_true, eq_self, List.length_cons, List.length_nil, Nat.reduceAdd, Nat.reduceLT, Nat.reduceSub, List.set_cons_succ, List.set_cons_zero, Option.toList, List.nil_append, List.cons_append, cI_ltT, cI_ltF, cI_leT, cI_leF, cI_eqT, cI_eqF, cI_cl, cN_leT, cN_leF, cN_ltT, cN_ltF, cN_eqT, cN_eqF, cI_add, cI_sub, cI_m1a, cI_m1b, cI_m1c, cI_m1d, cI_m1e, cI_m1f, cg_0 hc, gA, gF]
theorem m_X6_standsOpenly (hc : cur H x c p g e a mn fr) (hs : sym H (x + 1) ns ar fn) (hA : arl A ns ar) (hF : fnl F ns fn) (hk : kn1 ns e) (hka : kn1 ns a) (hac : acm A e) {vv : Nat} (hvv : 100 ≤ vv ∧ vv < 256) {i b : Nat} (hi : i ≤ b) (hb : b ≤ e.length) : ae_wm (d + 2) mX6_standsOpenly [.ref (x + 15), .int (nI vv), .int (nI i), .int (nI b)] (ov H x c p y) Q = Q (some (.int (if stn A F e (nI vv) (b - i) i b = true then nI 1 else nI 0))) (ov H x c p y) := by
  have g := m_X6_so_loop (d := d) (Q := Q) (y := y) hc hs hA hF hk hka hac hvv hb (l2 := some (.int (nI i))) (b - i) i i none (by omega) (by omega)
  rw [Nat.max_self] at g
  simp (disch := first | exact ae_isR_ref _ | exact ae_isR_null | exact ae_isR_rf _ | exact ae_cat_ref _ | exact ae_cat_int _ | exact ae_cat_null | exact ae_cat_rf _ | exact ae_nz0 | exact ae_nz1 | exact ae_fz0 | exact ae_fz1 | exact cI_na (by omega) | exact cI_ix (by omega) | exact cI_nn (by omega) | exact cI_nz (by omega) | exact cI_cp (by omega) | assumption | omega) only [s_X6_standsOpenly_0, s_X6_standsOpenly_1, s_X6_standsOpenly_3, s_X6_standsOpenly_4, e_X6_standsOpenly, g]
end UNI
