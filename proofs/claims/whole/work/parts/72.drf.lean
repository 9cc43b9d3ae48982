/-! NarrowSolver$Solver: the draft -/
/-- the problem that is worked on -/
def cur (H : ah_H) (x c p : Nat) (g : Nat → Int32) (e a : List Nat) (mn fr : Nat) : Prop := x + 22 < p ∧ x + 22 < c ∧ (c + 2 < p ∨ p + 2 < c) ∧ H.1 c = some (.inr (2, [.ref (c + 1), .int (nI mn), .int (nI e.length), .int (nI fr)])) ∧ nmb H (c + 1) 300 g (e ++ a).length ∧ rowl (e ++ a) g ∧ (e ++ a).length ≤ 300
/-- the draft's numbers are L, as far as they go -/
def dr (y : rS) (L : List Nat) : Prop := ∃ sz, y.1 31 = nI sz ∧ drn 300 (y.2.1 2) sz L
def bd (y : rS) (B : List Nat) : Prop := y.1 30 = nI B.length ∧ rowl B (y.2.1 0) ∧ B.length ≤ 4
theorem sbx_len {v : Int32} {B : List Nat} (hB : B.length ≤ 4) : ∀ l : List Nat, (sbx v B l).length ≤ 4 * l.length := by
  intro l
  induction l with
  | nil => exact Nat.le_refl _
  | cons x l ih =>
    by_cases c : nI x = v
    · rw [sbx_pos c]; simp only [List.length_append, List.length_cons]; omega
    · rw [sbx_neg c]; simp only [List.length_cons]; omega
theorem sl_len {l : List Nat} {a b : Nat} : (sl l a b).length ≤ b - a := by simp [sl]; omega
theorem dr_frm {y y2 : rS} {L : List Nat} {I R W : List Nat} (h : frm y y2 I R W) (h1 : 31 ∉ I) (h2 : 2 ∉ R) (hd : dr y L) : dr y2 L := by
  obtain ⟨sz, s1, s2⟩ := hd
  exact ⟨sz, by rw [h.1 31 h1]; exact s1, by rw [h.2.1 2 h2]; exact s2⟩
theorem bd_frm {y y2 : rS} {B : List Nat} {I R W : List Nat} (h : frm y y2 I R W) (h1 : 30 ∉ I) (h2 : 0 ∉ R) (hd : bd y B) : bd y2 B := by
  unfold bd at *
  rw [h.1 30 h1, h.2.1 0 h2]
  exact hd
section DRF
variable {d : Nat} {Q : Option Value → ah_H → Prop} {H : ah_H} {x c p : Nat} {y : rS} {g : Nat → Int32} {e a B L : List Nat} {mn fr : Nat} {K : Value → Prop} {A : Nat → Nat} {ns : Nat} {ar fn : Nat → Int32} {F : Nat → Bool}
theorem cu_c (h : cur H x c p g e a mn fr) : (ov H x c p y).1 c = some (.inr (2, [.ref (c + 1), .int (nI mn), .int (nI e.length), .int (nI fr)])) := by
  obtain ⟨h1, h2, h3, h4, h5, h6, h7⟩ := h
  rw [ov_out (by omega)]; exact h4
theorem cg_0 (h : cur H x c p g e a mn fr) : ae_gw (ov H x c p y) c 2 0 K = K (.ref (c + 1)) := by unfold ae_gw; rw [cu_c h]; rfl
theorem cg_1 (h : cur H x c p g e a mn fr) : ae_gw (ov H x c p y) c 2 1 K = K (.int (nI mn)) := by unfold ae_gw; rw [cu_c h]; rfl
theorem cg_2 (h : cur H x c p g e a mn fr) : ae_gw (ov H x c p y) c 2 2 K = K (.int (nI e.length)) := by unfold ae_gw; rw [cu_c h]; rfl
theorem cg_3 (h : cur H x c p g e a mn fr) : ae_gw (ov H x c p y) c 2 3 K = K (.int (nI fr)) := by unfold ae_gw; rw [cu_c h]; rfl
theorem cu_n (h : cur H x c p g e a mn fr) : nmb (ov H x c p y) (c + 1) 300 g (e ++ a).length := by
  obtain ⟨h1, h2, h3, h4, h5, h6, h7⟩ := h
  exact ⟨by rw [ov_out (by omega)]; exact h5.1, by rw [ov_out (by omega)]; exact h5.2⟩
theorem cng (h : cur H x c p g e a mn fr) : ae_gw (ov H x c p y) (c + 1) 1 1 K = K (.int (nI (e ++ a).length)) := by unfold ae_gw; rw [(cu_n h).1]; rfl
theorem sym_ov (hp : x + 22 < p) (hs : sym H (x + 1) ns ar fn) : sym (ov H x c p y) (x + 1) ns ar fn := ⟨by rw [ov_out (by omega)]; exact hs.1, by rw [ov_out (by omega)]; exact hs.2.1, by rw [ov_out (by omega)]; exact hs.2.2⟩
theorem m_X6_startDraft (hc : cur H x c p g e a mn fr) (hd : dr y L) : ∃ y2, (∀ Q, ae_wm (d + 1) mX6_startDraft [.ref (x + 15)] (ov H x c p y) Q = Q none (ov H x c p y2)) ∧ dr y2 [] ∧ y2.1 20 = nI mn ∧ y2.1 22 = nI fr ∧ y2.1 8 = -1 ∧ frm y y2 [8, 20, 22, 31] [] [] := by
  have hp := hc.1
  obtain ⟨sz, s1, s2⟩ := hd
  have gE := fun Q => m_X1_empty (d := d) (Q := Q) (nmb_d (H := H) (c := c) hp s1)
  have e1 : uR y 2 (y.2.1 2) = y := uR_same _ _
  simp only [nset_d hp, e1] at gE
  refine ⟨uI (uI (uI (uI y 31 (nI 0)) 20 (nI mn)) 22 (nI fr)) 8 (-1), fun Q => ?_, ⟨0, by simp [uI], drn_nil _ _⟩, by simp [uI], by simp [uI], by simp [uI], ⟨fun t ht => ?_, fun _ _ => rfl, fun _ _ => rfl⟩⟩
  · simp (disch := first | exact ae_isR_ref _ | exact ae_isR_null | exact ae_isR_rf _ | exact ae_cat_ref _ | exact ae_cat_int _ | exact ae_cat_null | exact ae_cat_rf _ | exact ae_nz0 | exact ae_nz1 | exact ae_fz0 | exact ae_fz1 | exact cI_na (by omega) | exact cI_ix (by omega) | exact cI_nn (by omega) | exact cI_nz (by omega) | exact cI_cp (by omega) | assumption | omega) only [s_X6_startDraft_0, s_X6_startDraft_1, s_X6_startDraft_4, s_X6_startDraft_7 (ov_p1 hp), s_X6_startDraft_10, s_X6_startDraft_11, s_X6_startDraft_14, s_X6_startDraft_15, s_X6_startDraft_18, s_X6_startDraft_21, s_X6_startDraft_24, s_X6_startDraft_25, s_X6_startDraft_28, s_X6_startDraft_29, s_X6_startDraft_32, s_X6_startDraft_35, s_X6_startDraft_38, s_X6_startDraft_39, s_X6_startDraft_40, s_X6_startDraft_43, e_X6_startDraft, og_0, og_1, og_2, og_3, og_4, og_5, og_6, og_7, og_8, og_9, og_10, og_11, og_12, op_6, op_8, op_9, op_10, op_11, op_12, dg_0, dg_1, dg_2, dg_3, dp_1, dp_2, dp_3, ng_b, ng_d, mz_m, ms_m, ov_2, nset_d, nset_b, uI_1, uI_2, uR_1, uR_21, uR_22, va_rf, Bool.false_eq_true, ae_Ki, ae_Kb, ae_Kj, ae_Ka, ae_Si, ae_Sb, ae_Sj, ae_Sn, List.getElem?_cons_succ, List.getElem?_cons_zero, ↓reduceIte, if_true, if_false, nI_ofNat, true_or, or_true, false_or, or_false, true_and, and_true, false_and, and_false, or_self, and_self, not_true_eq_false, not_false_eq_true, eq_self, List.length_cons, List.length_nil, Nat.reduceAdd, Nat.reduceLT, Nat.reduceSub, List.set_cons_succ, List.set_cons_zero, Option.toList, List.nil_append, List.cons_append, cI_ltT, cI_ltF, cI_leT, cI_leF, cI_eqT, cI_eqF, cI_cl, cN_leT, cN_leF, cN_ltT, cN_ltF, cN_eqT, cN_eqF, cI_add, cI_sub, cI_m1a, cI_m1b, cI_m1c, cI_m1d, cI_m1e, cI_m1f, cg_1 hc, cg_3 hc, gE]
  · simp only [List.mem_cons, List.not_mem_nil, or_false, not_or] at ht
    simp [uI, ht]
theorem m_X6_cb_loop (hc : cur H x c p g e a mn fr) {v : Int32} {to : Nat} (hto : to ≤ (e ++ a).length) {l1 : Option Value} : ∀ (k i : Nat) (L : List Nat) (y : rS) (l4 : Option Value), i + k = to → dr y L → bd y B → y.1 8 = v → L.length + 4 * k < 900000 → ∃ y2, (∀ Q, ae_wp (d + 2) mX6_copyBound 2 [some (.ref (x + 15)), l1, some (.int (nI to)), some (.int (nI i)), l4] [] (ov H x c p y) Q = Q none (ov H x c p y2)) ∧ dr y2 (L ++ sbx v B (sl (e ++ a) i to)) ∧ frm y y2 [31] [2] [] := by
  have hp := hc.1
  have hl := hc.2.2.2.2.2.2
  have hr := hc.2.2.2.2.2.1
  intro k
  induction k with
  | zero =>
    intro i L y l4 hi hd hb hv hL
    refine ⟨y, fun Q => ?_, by rw [sl_nil (by omega), sbx_nil, List.append_nil]; exact hd, frm_refl _ _ _ _⟩
    simp (disch := first | exact ae_isR_ref _ | exact ae_isR_null | exact ae_isR_rf _ | exact ae_cat_ref _ | exact ae_cat_int _ | exact ae_cat_null | exact ae_cat_rf _ | exact ae_nz0 | exact ae_nz1 | exact ae_fz0 | exact ae_fz1 | exact cI_na (by omega) | exact cI_ix (by omega) | exact cI_nn (by omega) | exact cI_nz (by omega) | exact cI_cp (by omega) | assumption | omega) only [s_X6_copyBound_2, s_X6_copyBound_3, s_X6_copyBound_4, s_X6_copyBound_72, og_0, og_1, og_2, og_3, og_4, og_5, og_6, og_7, og_8, og_9, og_10, og_11, og_12, op_6, op_8, op_9, op_10, op_11, op_12, dg_0, dg_1, dg_2, dg_3, dp_1, dp_2, dp_3, ng_b, ng_d, mz_m, ms_m, ov_2, nset_d, nset_b, uI_1, uI_2, uR_1, uR_21, uR_22, va_rf, Bool.false_eq_true, ae_Ki, ae_Kb, ae_Kj, ae_Ka, ae_Si, ae_Sb, ae_Sj, ae_Sn, List.getElem?_cons_succ, List.getElem?_cons_zero, ↓reduceIte, if_true, if_false, nI_ofNat, true_or, or_true, false_or, or_false, true_and, and_true, false_and, and_false, or_self, and_self, not_true_eq_false, not_false_eq_true, eq_self, List.length_cons, List.length_nil, Nat.reduceAdd, Nat.reduceLT, Nat.reduceSub, List.set_cons_succ, List.set_cons_zero, Option.toList, List.nil_append, List.cons_append, cI_ltT, cI_ltF, cI_leT, cI_leF, cI_eqT, cI_eqF, cI_cl, cN_leT, cN_leF, cN_ltT, cN_ltF, cN_eqT, cN_eqF, cI_add, cI_sub, cI_m1a, cI_m1b, cI_m1c, cI_m1d, cI_m1e, cI_m1f]
  | succ k ih =>
    intro i L y l4 hi hd hb hv hL
    obtain ⟨sz, s1, s2⟩ := hd
    have gA := fun Q => m_X1_at_l (d := d + 1) (Q := Q) (i := i) (cu_n (y := y) hc) (by omega) hr (by omega) hl
    have hsz := s2.1
    rw [sl_cons (by omega) hto]
    by_cases cv : nI ((e ++ a).getD i 0) = v
    · obtain ⟨f', sz', k1, k2, k3⟩ := m_X1_putAll (d := d) (h := ov H x c p y) (q := p + 1) (o := x + 20) (m := 4) (g := y.2.1 0) (l := B) (nmb_d hp s1) (by omega) (by omega) ⟨by rw [ov_20, hb.1], ov_21⟩ (by omega) hb.2.1 hb.2.2 (by omega) (i := 0) (j := B.length) (by omega) (by omega)
      simp only [nset_d hp] at k1
      rw [sl_all] at k2
      have hb2 : bd (uI (uR y 2 f') 31 (nI sz')) B := ⟨hb.1, hb.2.1, hb.2.2⟩
      obtain ⟨y2, i1, i2, i3⟩ := ih (i + 1) (L ++ B) (uI (uR y 2 f') 31 (nI sz')) (some (.int (nI ((e ++ a).getD i 0)))) (by omega) ⟨sz', by simp [uI], k2 _ s2⟩ hb2 hv (by rw [List.length_append]; have := hb.2.2; omega)
      refine ⟨y2, fun Q => ?_, ?_, frm_trans (s2 := uI (uR y 2 f') 31 (nI sz')) ⟨fun t ht => ?_, fun t ht => ?_, fun _ _ => rfl⟩ i3⟩
      · refine Eq.trans ?_ (s_X6_copyBound_69.trans (i1 Q))
        simp (disch := first | exact ae_isR_ref _ | exact ae_isR_null | exact ae_isR_rf _ | exact ae_cat_ref _ | exact ae_cat_int _ | exact ae_cat_null | exact ae_cat_rf _ | exact ae_nz0 | exact ae_nz1 | exact ae_fz0 | exact ae_fz1 | exact cI_na (by omega) | exact cI_ix (by omega) | exact cI_nn (by omega) | exact cI_nz (by omega) | exact cI_cp (by omega) | assumption | omega) only [s_X6_copyBound_2, s_X6_copyBound_3, s_X6_copyBound_4, s_X6_copyBound_7, s_X6_copyBound_8, s_X6_copyBound_11, s_X6_copyBound_14, s_X6_copyBound_15 (cu_n hc).1, s_X6_copyBound_18, s_X6_copyBound_20, s_X6_copyBound_22, s_X6_copyBound_23, s_X6_copyBound_26, s_X6_copyBound_29, s_X6_copyBound_30, s_X6_copyBound_33, s_X6_copyBound_36, s_X6_copyBound_37, s_X6_copyBound_40, s_X6_copyBound_41, s_X6_copyBound_42, s_X6_copyBound_45, s_X6_copyBound_48 (ov_p1 hp), s_X6_copyBound_51, s_X6_copyBound_54, s_X6_copyBound_55, s_X6_copyBound_58, s_X6_copyBound_61, s_X6_copyBound_63 (ov_p1 hp), s_X6_copyBound_66, og_0, og_1, og_2, og_3, og_4, og_5, og_6, og_7, og_8, og_9, og_10, og_11, og_12, op_6, op_8, op_9, op_10, op_11, op_12, dg_0, dg_1, dg_2, dg_3, dp_1, dp_2, dp_3, ng_b, ng_d, mz_m, ms_m, ov_2, nset_d, nset_b, uI_1, uI_2, uR_1, uR_21, uR_22, va_rf, Bool.false_eq_true, ae_Ki, ae_Kb, ae_Kj, ae_Ka, ae_Si, ae_Sb, ae_Sj, ae_Sn, List.getElem?_cons_succ, List.getElem?_cons_zero, ↓reduceIte, if_true, if_false, nI_ofNat, true_or, or_true, false_or, or_false, true_and, and_true, false_and, and_false, or_self, and_self, not_true_eq_false, not_false_eq_true, eq_self, List.length_cons, List.length_nil, Nat.reduceAdd, Nat.reduceLT, Nat.reduceSub, List.set_cons_succ, List.set_cons_zero, Option.toList, List.nil_append, List.cons_append, cI_ltT, cI_ltF, cI_leT, cI_leF, cI_eqT, cI_eqF, cI_cl, cN_leT, cN_leF, cN_ltT, cN_ltF, cN_eqT, cN_eqF, cI_add, cI_sub, cI_m1a, cI_m1b, cI_m1c, cI_m1d, cI_m1e, cI_m1f, cg_0 hc, gA, hv, cv, hb.1, k1]
      · rw [sbx_pos cv, ← List.append_assoc]; exact i2
      · simp only [List.mem_cons, List.not_mem_nil, or_false] at ht
        simp [uI, uR, ht]
      · simp only [List.mem_cons, List.not_mem_nil, or_false] at ht
        simp [uI, uR, ht]
    · have gP := fun Q => m_X1_put (d := d + 1) (Q := Q) (v := nI ((e ++ a).getD i 0)) (nmb_d (H := H) (c := c) hp s1) (by omega) (by omega)
      simp only [nset_d hp] at gP
      have hb2 : bd (uI (uR y 2 (if sz < 300 then upd (y.2.1 2) sz (nI ((e ++ a).getD i 0)) else y.2.1 2)) 31 (nI (sz + 1))) B := ⟨hb.1, hb.2.1, hb.2.2⟩
      obtain ⟨y2, i1, i2, i3⟩ := ih (i + 1) (L ++ [(e ++ a).getD i 0]) (uI (uR y 2 (if sz < 300 then upd (y.2.1 2) sz (nI ((e ++ a).getD i 0)) else y.2.1 2)) 31 (nI (sz + 1))) (some (.int (nI ((e ++ a).getD i 0)))) (by omega) ⟨sz + 1, by simp [uI], by
        have := drn_put (v := (e ++ a).getD i 0) s2
        simpa [uI, uR] using this⟩ hb2 hv (by rw [List.length_append]; simp only [List.length_cons, List.length_nil]; omega)
      refine ⟨y2, fun Q => ?_, ?_, frm_trans (s2 := uI (uR y 2 (if sz < 300 then upd (y.2.1 2) sz (nI ((e ++ a).getD i 0)) else y.2.1 2)) 31 (nI (sz + 1))) ⟨fun t ht => ?_, fun t ht => ?_, fun _ _ => rfl⟩ i3⟩
      · refine Eq.trans ?_ (s_X6_copyBound_69.trans (i1 Q))
        simp (disch := first | exact ae_isR_ref _ | exact ae_isR_null | exact ae_isR_rf _ | exact ae_cat_ref _ | exact ae_cat_int _ | exact ae_cat_null | exact ae_cat_rf _ | exact ae_nz0 | exact ae_nz1 | exact ae_fz0 | exact ae_fz1 | exact cI_na (by omega) | exact cI_ix (by omega) | exact cI_nn (by omega) | exact cI_nz (by omega) | exact cI_cp (by omega) | assumption | omega) only [s_X6_copyBound_2, s_X6_copyBound_3, s_X6_copyBound_4, s_X6_copyBound_7, s_X6_copyBound_8, s_X6_copyBound_11, s_X6_copyBound_14, s_X6_copyBound_15 (cu_n hc).1, s_X6_copyBound_18, s_X6_copyBound_20, s_X6_copyBound_22, s_X6_copyBound_23, s_X6_copyBound_26, s_X6_copyBound_29, s_X6_copyBound_30, s_X6_copyBound_33, s_X6_copyBound_36, s_X6_copyBound_37, s_X6_copyBound_40, s_X6_copyBound_41, s_X6_copyBound_42, s_X6_copyBound_45, s_X6_copyBound_48 (ov_p1 hp), s_X6_copyBound_51, s_X6_copyBound_54, s_X6_copyBound_55, s_X6_copyBound_58, s_X6_copyBound_61, s_X6_copyBound_63 (ov_p1 hp), s_X6_copyBound_66, og_0, og_1, og_2, og_3, og_4, og_5, og_6, og_7, og_8, og_9, og_10, og_11, og_12, op_6, op_8, op_9, op_10, op_11, op_12, dg_0, dg_1, dg_2, dg_3, dp_1, dp_2, dp_3, ng_b, ng_d, mz_m, ms_m, ov_2, nset_d, nset_b, uI_1, uI_2, uR_1, uR_21, uR_22, va_rf, Bool.false_eq_true, ae_Ki, ae_Kb, ae_Kj, ae_Ka, ae_Si, ae_Sb, ae_Sj, ae_Sn, List.getElem?_cons_succ, List.getElem?_cons_zero, ↓reduceIte, if_true, if_false, nI_ofNat, true_or, or_true, false_or, or_false, true_and, and_true, false_and, and_false, or_self, and_self, not_true_eq_false, not_false_eq_true, eq_self, List.length_cons, List.length_nil, Nat.reduceAdd, Nat.reduceLT, Nat.reduceSub, List.set_cons_succ, List.set_cons_zero, Option.toList, List.nil_append, List.cons_append, cI_ltT, cI_ltF, cI_leT, cI_leF, cI_eqT, cI_eqF, cI_cl, cN_leT, cN_leF, cN_ltT, cN_ltF, cN_eqT, cN_eqF, cI_add, cI_sub, cI_m1a, cI_m1b, cI_m1c, cI_m1d, cI_m1e, cI_m1f, cg_0 hc, gA, hv, cv, gP]
      · rw [sbx_neg cv, List.append_cons]; exact i2
      · simp only [List.mem_cons, List.not_mem_nil, or_false] at ht
        simp [uI, uR, ht]
      · simp only [List.mem_cons, List.not_mem_nil, or_false] at ht
        simp [uI, uR, ht]
theorem m_X6_copyBound (hc : cur H x c p g e a mn fr) {v : Int32} {i to : Nat} (hi : i ≤ to) (hto : to ≤ (e ++ a).length) (hd : dr y L) (hb : bd y B) (hv : y.1 8 = v) (hL : L.length < 800000) : ∃ y2, (∀ Q, ae_wm (d + 2) mX6_copyBound [.ref (x + 15), .int (nI i), .int (nI to)] (ov H x c p y) Q = Q none (ov H x c p y2)) ∧ dr y2 (L ++ sbx v B (sl (e ++ a) i to)) ∧ frm y y2 [31] [2] [] := by
  have hl := hc.2.2.2.2.2.2
  obtain ⟨y2, i1, i2, i3⟩ := m_X6_cb_loop (d := d) (B := B) hc (v := v) hto (l1 := some (.int (nI i))) (to - i) i L y none (by omega) hd hb hv (by omega)
  refine ⟨y2, fun Q => ?_, i2, i3⟩
  simp (disch := first | exact ae_isR_ref _ | exact ae_isR_null | exact ae_isR_rf _ | exact ae_cat_ref _ | exact ae_cat_int _ | exact ae_cat_null | exact ae_cat_rf _ | exact ae_nz0 | exact ae_nz1 | exact ae_fz0 | exact ae_fz1 | exact cI_na (by omega) | exact cI_ix (by omega) | exact cI_nn (by omega) | exact cI_nz (by omega) | exact cI_cp (by omega) | assumption | omega) only [s_X6_copyBound_0, s_X6_copyBound_1, e_X6_copyBound, i1]
end DRF
