/-! NarrowSolver$TreeMaker: placeOf, standsIn -/
theorem tl_like {A : Nat → Nat} {l l2 : List Nat} (hl : l.length = l2.length) (h : ∀ i, i < l.length → A (l.getD i 0) = A (l2.getD i 0)) : ∀ (k ms i : Nat), tl A l k ms i = tl A l2 k ms i := by
  intro k
  induction k with
  | zero => intro ms i; rfl
  | succ k ih =>
    intro ms i
    rw [tl, tl, ← hl]
    by_cases c : ms = 0
    · rw [if_pos c, if_pos c]
    · rw [if_neg c, if_neg c]
      by_cases c2 : i < l.length
      · rw [if_pos c2, if_pos c2, h i c2, ih]
      · rw [if_neg c2, if_neg c2]
theorem te_pcm {ns : Nat} {A : Nat → Nat} {p : List Nat} (hns : ns ≤ 24) (h0 : ∀ x, ns ≤ x → A x = 0) (i : Nat) : te A (pcm p) i = te A p i := by
  unfold te
  rw [pcm_len]
  refine tl_like (pcm_len p) (fun i hi => ?_) _ _ _
  rw [pcm_len] at hi
  rw [pcm_at hi]
  by_cases c : p.getD i 0 = 99
  · rw [if_pos c, c, h0 100 (by omega), h0 99 (by omega)]
  · rw [if_neg c]
section PLC
variable {d : Nat} {Q : Option Value → ah_H → Prop} {G : ah_H} {x : Nat} {A : Nat → Nat} {ns : Nat} {ar fn : Nat → Int32} {p : List Nat}
theorem pat_te (hA : arl A ns ar) (hs : sym G (x + 1) ns ar fn) (hp : pat G x (pcm p)) (hpe : ∀ i, i < p.length → p.getD i 0 < ns ∨ p.getD i 0 = 99) {i : Nat} (hi : i ≤ p.length) : ∀ Q, ae_wm (d + 1) mX7_endOfTerm [.ref (x + 1), .ref (x + 12), .int (nI i)] G Q = Q (some (.int (nI (te A p i)))) G := by
  obtain ⟨g, p1, p2, p3⟩ := hp
  have hns := hA.1
  intro Q
  rw [m_X7_endOfTerm hs hA p1 (by omega) p3 p2 (fun j hj => by
    rw [pcm_len] at hj
    rw [pcm_at hj]
    have := hpe j hj
    split <;> omega) (by rw [pcm_len]; exact hi), te_pcm hns hA.2.2]
theorem m_X9_po_in (hA : arl A ns ar) (hs : sym G (x + 1) ns ar fn) (ht : tmk G x) (hp : pat G x (pcm p)) (hpe : ∀ i, i < p.length → p.getD i 0 < ns ∨ p.getD i 0 = 99) {a j dd m1 : Nat} (hrn : rn A (p.drop a) (m1 + 1) = some 0) (hd1 : 1 ≤ dd) (hd2 : dd ≤ A (p.getD a 0)) (hj1 : chd A p a dd ≤ j) (hj2 : j < te A p (chd A p a dd)) {l2 l4 : Option Value} : ∀ (m k : Nat), k + m = dd → 1 ≤ k → ae_wp (d + 2) mX9_placeOf 34 [some (.ref (x + 11)), some (.int (nI j)), l2, some (.int (nI (chd A p a k))), l4, some (.int (nI k)), some (.int (nI (te A p (chd A p a k))))] [] G Q = ae_wp (d + 2) mX9_placeOf 69 [some (.ref (x + 11)), some (.int (nI j)), l2, some (.int (nI (chd A p a dd))), l4, some (.int (nI dd)), some (.int (nI (te A p (chd A p a dd))))] [] G Q := by
  have hA3 := arl_le hA (p.getD a 0)
  have hpl : p.length ≤ 120 := by
    obtain ⟨g, p1, p2, p3⟩ := hp
    rw [pcm_len] at p3
    exact p3
  have o0 : ∀ K, ae_gw G (x + 11) 9 0 K = K (.ref (x + 1)) := fun K => by unfold ae_gw; rw [ht]; rfl
  have o2 : ∀ K, ae_gw G (x + 11) 9 2 K = K (.ref (x + 12)) := fun K => by unfold ae_gw; rw [ht]; rfl
  intro m
  induction m with
  | zero =>
    intro k hk h1
    have e : k = dd := by omega
    subst e
    obtain ⟨r1, r2, r3⟩ := rn_chd hrn hd1 hd2
    have r4 := (rn_te r1).2.1
    have hj9 : j < 2147483648 := by omega
    simp (disch := first | exact ae_isR_ref _ | exact ae_isR_null | exact ae_isR_rf _ | exact ae_cat_ref _ | exact ae_cat_int _ | exact ae_cat_null | exact ae_cat_rf _ | exact ae_nz0 | exact ae_nz1 | exact ae_fz0 | exact ae_fz1 | exact cI_na (by omega) | exact cI_ix (by omega) | exact cI_nn (by omega) | exact cI_nz (by omega) | exact cI_cp (by omega) | assumption | omega) only [s_X9_placeOf_34, s_X9_placeOf_36, s_X9_placeOf_37, og_0, og_1, og_2, og_3, og_4, og_5, og_6, og_7, og_8, og_9, og_10, og_11, og_12, op_6, op_8, op_9, op_10, op_11, op_12, dg_0, dg_1, dg_2, dg_3, dp_1, dp_2, dp_3, ng_b, ng_d, mz_m, ms_m, ov_2, nset_d, nset_b, uI_1, uI_2, uR_1, uR_21, uR_22, va_rf, Bool.false_eq_true, ae_Ki, ae_Kb, ae_Kj, ae_Ka, ae_Si, ae_Sb, ae_Sj, ae_Sn, List.getElem?_cons_succ, List.getElem?_cons_zero, ↓reduceIte, if_true, if_false, nI_ofNat, true_or, or_true, false_or, or_false, true_and, and_true, false_and, and_false, or_self, and_self, not_true_eq_false, not_false_eq_true, eq_self, List.length_cons, List.length_nil, Nat.reduceAdd, Nat.reduceLT, Nat.reduceSub, List.set_cons_succ, List.set_cons_zero, Option.toList, List.nil_append, List.cons_append, cI_ltT, cI_ltF, cI_leT, cI_leF, cI_eqT, cI_eqF, cI_cl, cN_leT, cN_leF, cN_ltT, cN_ltF, cN_eqT, cN_eqF, cI_add, cI_sub, cI_m1a, cI_m1b, cI_m1c, cI_m1d, cI_m1e, cI_m1f]
  | succ m ih =>
    intro k hk h1
    obtain ⟨r1, r2, r3⟩ := rn_chd hrn h1 (show k ≤ A (p.getD a 0) by omega)
    have r4 := (rn_te r1).2.1
    have hb := vpt_bef hrn h1 (show k < dd by omega) hd2
    have gE := fun Q => pat_te (d := d) hA hs hp hpe r4 Q
    have hc := chd_succ (A := A) (l := p) (a := a) h1
    have := ih (k + 1) (by omega) (by omega)
    rw [hc] at this
    refine Eq.trans ?_ (s_X9_placeOf_66.trans this)
    have hj9 : j < 2147483648 := by
      obtain ⟨q1, q2, q3⟩ := rn_chd hrn hd1 hd2
      have q4 := (rn_te q1).2.1
      omega
    simp (disch := first | exact ae_isR_ref _ | exact ae_isR_null | exact ae_isR_rf _ | exact ae_cat_ref _ | exact ae_cat_int _ | exact ae_cat_null | exact ae_cat_rf _ | exact ae_nz0 | exact ae_nz1 | exact ae_fz0 | exact ae_fz1 | exact cI_na (by omega) | exact cI_ix (by omega) | exact cI_nn (by omega) | exact cI_nz (by omega) | exact cI_cp (by omega) | assumption | omega) only [s_X9_placeOf_34, s_X9_placeOf_36, s_X9_placeOf_37, s_X9_placeOf_40, s_X9_placeOf_42, s_X9_placeOf_43, s_X9_placeOf_46, s_X9_placeOf_48, s_X9_placeOf_49, s_X9_placeOf_50, s_X9_placeOf_53, s_X9_placeOf_54, s_X9_placeOf_57, s_X9_placeOf_58 hs.1, s_X9_placeOf_61, s_X9_placeOf_63, og_0, og_1, og_2, og_3, og_4, og_5, og_6, og_7, og_8, og_9, og_10, og_11, og_12, op_6, op_8, op_9, op_10, op_11, op_12, dg_0, dg_1, dg_2, dg_3, dp_1, dp_2, dp_3, ng_b, ng_d, mz_m, ms_m, ov_2, nset_d, nset_b, uI_1, uI_2, uR_1, uR_21, uR_22, va_rf, Bool.false_eq_true, ae_Ki, ae_Kb, ae_Kj, ae_Ka, ae_Si, ae_Sb, ae_Sj, ae_Sn, List.getElem?_cons_succ, List.getElem?_cons_zero, ↓reduceIte, if_true, if_false, nI_ofNat, true_or, or_true, false_or, or_false, true_and, and_true, false_and, and_false, or_self, and_self, not_true_eq_false, not_false_eq_true, eq_self, List.length_cons, List.length_nil, Nat.reduceAdd, Nat.reduceLT, Nat.reduceSub, List.set_cons_succ, List.set_cons_zero, Option.toList, List.nil_append, List.cons_append, cI_ltT, cI_ltF, cI_leT, cI_leF, cI_eqT, cI_eqF, cI_cl, cN_leT, cN_leF, cN_ltT, cN_ltF, cN_eqT, cN_eqF, cI_add, cI_sub, cI_m1a, cI_m1b, cI_m1c, cI_m1d, cI_m1e, cI_m1f, o0, o2, gE]
theorem m_X9_po_loop (hA : arl A ns ar) (hs : sym G (x + 1) ns ar fn) (ht : tmk G x) (hp : pat G x (pcm p)) (hpe : ∀ i, i < p.length → p.getD i 0 < ns ∨ p.getD i 0 = 99) {j : Nat} (hj : j < p.length) : ∀ (ds : List Nat) (a t V m1 : Nat) (l5 l6 : Option Value), ds ≠ [] → vp A p a ds j → rn A (p.drop a) (m1 + 1) = some 0 → 1 ≤ t → t ≤ 9 → V < 10 ^ (t - 1) → ae_wp (d + 2) mX9_placeOf 7 [some (.ref (x + 11)), some (.int (nI j)), some (.int (nI V)), some (.int (nI a)), some (.int (nI t)), l5, l6] [] G Q = Q (some (.int (if t - 1 + ds.length ≤ 8 then nI (ds.foldl (fun v d => 10 * v + d) V) else -1))) G := by
  have hpl : p.length ≤ 120 := by
    obtain ⟨g, p1, p2, p3⟩ := hp
    rw [pcm_len] at p3
    exact p3
  have o0 : ∀ K, ae_gw G (x + 11) 9 0 K = K (.ref (x + 1)) := fun K => by unfold ae_gw; rw [ht]; rfl
  have o2 : ∀ K, ae_gw G (x + 11) 9 2 K = K (.ref (x + 12)) := fun K => by unfold ae_gw; rw [ht]; rfl
  intro ds
  induction ds with
  | nil => intro a t V m1 l5 l6 h; exact absurd rfl h
  | cons dd ds ih =>
    intro a t V m1 l5 l6 _ hv hrn h1 h2 hV
    obtain ⟨v1, v2, v3⟩ := hv
    have hA3 := arl_le hA (p.getD a 0)
    obtain ⟨r1, r2, r3⟩ := rn_chd hrn v1 v2
    obtain ⟨i1, i2, i3, m2, i4⟩ := vpt_in _ _ _ _ r1 v3
    have hal := (te_args hrn).2.1
    by_cases c9 : t = 9
    · subst c9
      rw [if_neg (by simp only [List.length_cons]; omega)]
      simp (disch := first | exact ae_isR_ref _ | exact ae_isR_null | exact ae_isR_rf _ | exact ae_cat_ref _ | exact ae_cat_int _ | exact ae_cat_null | exact ae_cat_rf _ | exact ae_nz0 | exact ae_nz1 | exact ae_fz0 | exact ae_fz1 | exact cI_na (by omega) | exact cI_ix (by omega) | exact cI_nn (by omega) | exact cI_nz (by omega) | exact cI_cp (by omega) | assumption | omega) only [s_X9_placeOf_7, s_X9_placeOf_9, s_X9_placeOf_11, s_X9_placeOf_90, s_X9_placeOf_91, og_0, og_1, og_2, og_3, og_4, og_5, og_6, og_7, og_8, og_9, og_10, og_11, og_12, op_6, op_8, op_9, op_10, op_11, op_12, dg_0, dg_1, dg_2, dg_3, dp_1, dp_2, dp_3, ng_b, ng_d, mz_m, ms_m, ov_2, nset_d, nset_b, uI_1, uI_2, uR_1, uR_21, uR_22, va_rf, Bool.false_eq_true, ae_Ki, ae_Kb, ae_Kj, ae_Ka, ae_Si, ae_Sb, ae_Sj, ae_Sn, List.getElem?_cons_succ, List.getElem?_cons_zero, ↓reduceIte, if_true, if_false, nI_ofNat, true_or, or_true, false_or, or_false, true_and, and_true, false_and, and_false, or_self, and_self, not_true_eq_false, not_false_eq_true, eq_self, List.length_cons, List.length_nil, Nat.reduceAdd, Nat.reduceLT, Nat.reduceSub, List.set_cons_succ, List.set_cons_zero, Option.toList, List.nil_append, List.cons_append, cI_ltT, cI_ltF, cI_leT, cI_leF, cI_eqT, cI_eqF, cI_cl, cN_leT, cN_leF, cN_ltT, cN_ltF, cN_eqT, cN_eqF, cI_add, cI_sub, cI_m1a, cI_m1b, cI_m1c, cI_m1d, cI_m1e, cI_m1f]
    · have hV8 : (10 : Nat) ^ (t - 1) ≤ 10 ^ 7 := Nat.pow_le_pow_right (by decide) (by omega)
      have h107 : (10 : Nat) ^ 7 = 10000000 := by decide
      have hVb : V < 10000000 := by omega
      have gE := fun Q => pat_te (d := d) hA hs hp hpe (show a + 1 ≤ p.length by omega) Q
      have gi := m_X9_po_in (d := d) (Q := Q) hA hs ht hp hpe hrn v1 v2 i1 i2 (l2 := some (.int (nI V))) (l4 := some (.int (nI t))) (dd - 1) 1 (by omega) (by omega)
      rw [chd_one] at gi
      have hpre : ae_wp (d + 2) mX9_placeOf 7 [some (.ref (x + 11)), some (.int (nI j)), some (.int (nI V)), some (.int (nI a)), some (.int (nI t)), l5, l6] [] G Q = ae_wp (d + 2) mX9_placeOf 69 [some (.ref (x + 11)), some (.int (nI j)), some (.int (nI V)), some (.int (nI (chd A p a dd))), some (.int (nI t)), some (.int (nI dd)), some (.int (nI (te A p (chd A p a dd))))] [] G Q := by
        refine Eq.trans ?_ gi
        clear hV hV8 h107
        simp (disch := first | exact ae_isR_ref _ | exact ae_isR_null | exact ae_isR_rf _ | exact ae_cat_ref _ | exact ae_cat_int _ | exact ae_cat_null | exact ae_cat_rf _ | exact ae_nz0 | exact ae_nz1 | exact ae_fz0 | exact ae_fz1 | exact cI_na (by omega) | exact cI_ix (by omega) | exact cI_nn (by omega) | exact cI_nz (by omega) | exact cI_cp (by omega) | assumption | omega) only [s_X9_placeOf_7, s_X9_placeOf_9, s_X9_placeOf_11, s_X9_placeOf_14, s_X9_placeOf_15, s_X9_placeOf_17, s_X9_placeOf_20, s_X9_placeOf_21, s_X9_placeOf_24, s_X9_placeOf_25, s_X9_placeOf_28, s_X9_placeOf_29 hs.1, s_X9_placeOf_32, og_0, og_1, og_2, og_3, og_4, og_5, og_6, og_7, og_8, og_9, og_10, og_11, og_12, op_6, op_8, op_9, op_10, op_11, op_12, dg_0, dg_1, dg_2, dg_3, dp_1, dp_2, dp_3, ng_b, ng_d, mz_m, ms_m, ov_2, nset_d, nset_b, uI_1, uI_2, uR_1, uR_21, uR_22, va_rf, Bool.false_eq_true, ae_Ki, ae_Kb, ae_Kj, ae_Ka, ae_Si, ae_Sb, ae_Sj, ae_Sn, List.getElem?_cons_succ, List.getElem?_cons_zero, ↓reduceIte, if_true, if_false, nI_ofNat, true_or, or_true, false_or, or_false, true_and, and_true, false_and, and_false, or_self, and_self, not_true_eq_false, not_false_eq_true, eq_self, List.length_cons, List.length_nil, Nat.reduceAdd, Nat.reduceLT, Nat.reduceSub, List.set_cons_succ, List.set_cons_zero, Option.toList, List.nil_append, List.cons_append, cI_ltT, cI_ltF, cI_leT, cI_leF, cI_eqT, cI_eqF, cI_cl, cN_leT, cN_leF, cN_ltT, cN_ltF, cN_eqT, cN_eqF, cI_add, cI_sub, cI_m1a, cI_m1b, cI_m1c, cI_m1d, cI_m1e, cI_m1f, o0, o2, gE]
      rw [hpre]
      by_cases cd : ds = []
      · subst cd
        have e : chd A p a dd = j := v3
        rw [if_pos (by simp only [List.length_cons, List.length_nil]; omega)]
        simp only [List.foldl_cons, List.foldl_nil]
        rw [e, Nat.mul_comm 10 V]
        clear hV hV8 h107
        simp (disch := first | exact ae_isR_ref _ | exact ae_isR_null | exact ae_isR_rf _ | exact ae_cat_ref _ | exact ae_cat_int _ | exact ae_cat_null | exact ae_cat_rf _ | exact ae_nz0 | exact ae_nz1 | exact ae_fz0 | exact ae_fz1 | exact cI_na (by omega) | exact cI_ix (by omega) | exact cI_nn (by omega) | exact cI_nz (by omega) | exact cI_cp (by omega) | assumption | omega) only [s_X9_placeOf_69, s_X9_placeOf_70, s_X9_placeOf_72, s_X9_placeOf_73, s_X9_placeOf_75, s_X9_placeOf_76, s_X9_placeOf_77, s_X9_placeOf_78, s_X9_placeOf_79, s_X9_placeOf_82, s_X9_placeOf_83, og_0, og_1, og_2, og_3, og_4, og_5, og_6, og_7, og_8, og_9, og_10, og_11, og_12, op_6, op_8, op_9, op_10, op_11, op_12, dg_0, dg_1, dg_2, dg_3, dp_1, dp_2, dp_3, ng_b, ng_d, mz_m, ms_m, ov_2, nset_d, nset_b, uI_1, uI_2, uR_1, uR_21, uR_22, va_rf, Bool.false_eq_true, ae_Ki, ae_Kb, ae_Kj, ae_Ka, ae_Si, ae_Sb, ae_Sj, ae_Sn, List.getElem?_cons_succ, List.getElem?_cons_zero, ↓reduceIte, if_true, if_false, nI_ofNat, true_or, or_true, false_or, or_false, true_and, and_true, false_and, and_false, or_self, and_self, not_true_eq_false, not_false_eq_true, eq_self, List.length_cons, List.length_nil, Nat.reduceAdd, Nat.reduceLT, Nat.reduceSub, List.set_cons_succ, List.set_cons_zero, Option.toList, List.nil_append, List.cons_append, cI_ltT, cI_ltF, cI_leT, cI_leF, cI_eqT, cI_eqF, cI_cl, cN_leT, cN_leF, cN_ltT, cN_ltF, cN_eqT, cN_eqF, cI_add, cI_sub, cI_m1a, cI_m1b, cI_m1c, cI_m1d, cI_m1e, cI_m1f, cI_mul]
      · have hne : 0 < ds.length := List.length_pos_iff.mpr cd
        have hlt : chd A p a dd < j := by omega
        have hpw : 10 ^ (t + 1 - 1) = 10 * 10 ^ (t - 1) := by
          obtain ⟨s, rfl⟩ : ∃ s, t = s + 1 := ⟨t - 1, by omega⟩
          simp only [Nat.add_sub_cancel, Nat.pow_succ]
          omega
        have := ih (chd A p a dd) (t + 1) (10 * V + dd) _ (some (.int (nI dd))) (some (.int (nI (te A p (chd A p a dd))))) cd v3 r1 (by omega) (by omega) (by rw [hpw]; omega)
        have e8 : (t + 1 - 1 + ds.length ≤ 8) ↔ (t - 1 + (dd :: ds).length ≤ 8) := by simp only [List.length_cons]; omega
        simp only [e8] at this
        simp only [List.foldl_cons]
        refine Eq.trans ?_ (s_X9_placeOf_87.trans this)
        rw [Nat.mul_comm 10 V]
        clear hV hV8 h107 hpw this
        simp (disch := first | exact ae_isR_ref _ | exact ae_isR_null | exact ae_isR_rf _ | exact ae_cat_ref _ | exact ae_cat_int _ | exact ae_cat_null | exact ae_cat_rf _ | exact ae_nz0 | exact ae_nz1 | exact ae_fz0 | exact ae_fz1 | exact cI_na (by omega) | exact cI_ix (by omega) | exact cI_nn (by omega) | exact cI_nz (by omega) | exact cI_cp (by omega) | assumption | omega) only [s_X9_placeOf_69, s_X9_placeOf_70, s_X9_placeOf_72, s_X9_placeOf_73, s_X9_placeOf_75, s_X9_placeOf_76, s_X9_placeOf_77, s_X9_placeOf_78, s_X9_placeOf_79, s_X9_placeOf_82, s_X9_placeOf_83, s_X9_placeOf_84, og_0, og_1, og_2, og_3, og_4, og_5, og_6, og_7, og_8, og_9, og_10, og_11, og_12, op_6, op_8, op_9, op_10, op_11, op_12, dg_0, dg_1, dg_2, dg_3, dp_1, dp_2, dp_3, ng_b, ng_d, mz_m, ms_m, ov_2, nset_d, nset_b, uI_1, uI_2, uR_1, uR_21, uR_22, va_rf, Bool.false_eq_true, ae_Ki, ae_Kb, ae_Kj, ae_Ka, ae_Si, ae_Sb, ae_Sj, ae_Sn, List.getElem?_cons_succ, List.getElem?_cons_zero, ↓reduceIte, if_true, if_false, nI_ofNat, true_or, or_true, false_or, or_false, true_and, and_true, false_and, and_false, or_self, and_self, not_true_eq_false, not_false_eq_true, eq_self, List.length_cons, List.length_nil, Nat.reduceAdd, Nat.reduceLT, Nat.reduceSub, List.set_cons_succ, List.set_cons_zero, Option.toList, List.nil_append, List.cons_append, cI_ltT, cI_ltF, cI_leT, cI_leF, cI_eqT, cI_eqF, cI_cl, cN_leT, cN_leF, cN_ltT, cN_ltF, cN_eqT, cN_eqF, cI_add, cI_sub, cI_m1a, cI_m1b, cI_m1c, cI_m1d, cI_m1e, cI_m1f, cI_mul]
theorem m_X9_placeOf (hA : arl A ns ar) (hs : sym G (x + 1) ns ar fn) (ht : tmk G x) (hp : pat G x (pcm p)) (hpe : ∀ i, i < p.length → p.getD i 0 < ns ∨ p.getD i 0 = 99) {j : Nat} (hj : j < p.length) (hj0 : 0 < j) (hrn : rn A p 1 = some 0) : ae_wm (d + 2) mX9_placeOf [.ref (x + 11), .int (nI j)] G Q = Q (some (.int (if (pds A p j).length ≤ 8 then nI (plv (pds A p j)) else -1))) G := by
  have hv := pds_vp hrn hj
  have hne : pds A p j ≠ [] := fun z => by
    rw [z] at hv
    have hv : 0 = j := hv
    omega
  have g := m_X9_po_loop (d := d) (Q := Q) hA hs ht hp hpe hj (pds A p j) 0 1 0 0 none none hne hv (by simpa using hrn) (by decide) (by decide) (by decide)
  have e : 1 - 1 + (pds A p j).length = (pds A p j).length := by omega
  rw [e] at g
  simp (disch := first | exact ae_isR_ref _ | exact ae_isR_null | exact ae_isR_rf _ | exact ae_cat_ref _ | exact ae_cat_int _ | exact ae_cat_null | exact ae_cat_rf _ | exact ae_nz0 | exact ae_nz1 | exact ae_fz0 | exact ae_fz1 | exact cI_na (by omega) | exact cI_ix (by omega) | exact cI_nn (by omega) | exact cI_nz (by omega) | exact cI_cp (by omega) | assumption | omega) only [s_X9_placeOf_0, s_X9_placeOf_1, s_X9_placeOf_2, s_X9_placeOf_3, s_X9_placeOf_4, s_X9_placeOf_5, e_X9_placeOf, g, plv]
theorem m_X9_si_loop (hA : arl A ns ar) (hs : sym G (x + 1) ns ar fn) (ht : tmk G x) (hp : pat G x (pcm p)) (hpe : ∀ i, i < p.length → p.getD i 0 < ns ∨ p.getD i 0 = 99) {ra : Nat} {l : List Nat} {gl : Nat → Int32} (hL : nmb G (ra + 1) l.length gl l.length) (hl1 : rowl l gl) (hl2 : l.length ≤ 120) (hsm : sml l) {j : Nat} (hj : j < p.length) (hm : mtc A l p 0) : ∀ (m i : Nat), i + m = j → ae_wp (d + 2) mX9_standsIn 5 [some (.ref (x + 11)), some (.ref (ra + 1)), some (.int (nI j)), some (.int (nI (wlk A l (p.take i) 0))), some (.int (nI i))] [] G Q = Q (some (.int (nI (l.getD (wlk A l (p.take j) 0) 0)))) G := by
  obtain ⟨g, p1, p2, p3⟩ := hp
  have hpl : p.length ≤ 120 := by rw [pcm_len] at p3; exact p3
  have hns := hA.1
  have o0 : ∀ K, ae_gw G (x + 11) 9 0 K = K (.ref (x + 1)) := fun K => by unfold ae_gw; rw [ht]; rfl
  have o2 : ∀ K, ae_gw G (x + 11) 9 2 K = K (.ref (x + 12)) := fun K => by unfold ae_gw; rw [ht]; rfl
  intro m
  induction m with
  | zero =>
    intro i hi
    have e : i = j := by omega
    subst e
    have h1 := (mtc_at hm hj).1
    have gA := fun Q => m_X1_at_l (d := d + 1) (Q := Q) (i := wlk A l (p.take i) 0) hL (by omega) hl1 h1 (Nat.le_refl _)
    simp (disch := first | exact ae_isR_ref _ | exact ae_isR_null | exact ae_isR_rf _ | exact ae_cat_ref _ | exact ae_cat_int _ | exact ae_cat_null | exact ae_cat_rf _ | exact ae_nz0 | exact ae_nz1 | exact ae_fz0 | exact ae_fz1 | exact cI_na (by omega) | exact cI_ix (by omega) | exact cI_nn (by omega) | exact cI_nz (by omega) | exact cI_cp (by omega) | assumption | omega) only [s_X9_standsIn_5, s_X9_standsIn_7, s_X9_standsIn_8, s_X9_standsIn_48, s_X9_standsIn_49, s_X9_standsIn_50 hL.1, s_X9_standsIn_53, og_0, og_1, og_2, og_3, og_4, og_5, og_6, og_7, og_8, og_9, og_10, og_11, og_12, op_6, op_8, op_9, op_10, op_11, op_12, dg_0, dg_1, dg_2, dg_3, dp_1, dp_2, dp_3, ng_b, ng_d, mz_m, ms_m, ov_2, nset_d, nset_b, uI_1, uI_2, uR_1, uR_21, uR_22, va_rf, Bool.false_eq_true, ae_Ki, ae_Kb, ae_Kj, ae_Ka, ae_Si, ae_Sb, ae_Sj, ae_Sn, List.getElem?_cons_succ, List.getElem?_cons_zero, ↓reduceIte, if_true, if_false, nI_ofNat, true_or, or_true, false_or, or_false, true_and, and_true, false_and, and_false, or_self, and_self, not_true_eq_false, not_false_eq_true, eq_self, List.length_cons, List.length_nil, Nat.reduceAdd, Nat.reduceLT, Nat.reduceSub, List.set_cons_succ, List.set_cons_zero, Option.toList, List.nil_append, List.cons_append, cI_ltT, cI_ltF, cI_leT, cI_leF, cI_eqT, cI_eqF, cI_cl, cN_leT, cN_leF, cN_ltT, cN_ltF, cN_eqT, cN_eqF, cI_add, cI_sub, cI_m1a, cI_m1b, cI_m1c, cI_m1d, cI_m1e, cI_m1f, gA]
  | succ m ih =>
    intro i hi
    have hil : i < p.length := by omega
    have h1 := (mtc_at hm hil).1
    have hpi := hpe i hil
    have gA := fun Q => m_X1_at_l (d := d + 1) (Q := Q) (i := i) p1 (by omega) p2 (by rw [pcm_len]; exact hil) p3
    rw [pcm_at hil] at gA
    have hws := wlk_succ (A := A) (l := l) (i := 0) hil
    refine Eq.trans ?_ (s_X9_standsIn_45.trans (ih (i + 1) (by omega)))
    rw [hws]
    by_cases c : p.getD i 0 = 99
    · rw [if_pos c]
      rw [if_pos c] at gA
      have gV := fun Q => m_X10_isVariable (d := d + 1) (Q := Q) (h := G) (v := 100) (by omega)
      rw [if_pos (by decide)] at gV
      have gE := fun Q => m_X7_endOfTerm (d := d) (Q := Q) (i := wlk A l (p.take i) 0) hs hA hL (by omega) (Nat.le_refl _) hl1 hsm (by omega)
      simp (disch := first | exact ae_isR_ref _ | exact ae_isR_null | exact ae_isR_rf _ | exact ae_cat_ref _ | exact ae_cat_int _ | exact ae_cat_null | exact ae_cat_rf _ | exact ae_nz0 | exact ae_nz1 | exact ae_fz0 | exact ae_fz1 | exact cI_na (by omega) | exact cI_ix (by omega) | exact cI_nn (by omega) | exact cI_nz (by omega) | exact cI_cp (by omega) | assumption | omega) only [s_X9_standsIn_5, s_X9_standsIn_7, s_X9_standsIn_8, s_X9_standsIn_11, s_X9_standsIn_12, s_X9_standsIn_15, s_X9_standsIn_17 p1.1, s_X9_standsIn_20, s_X9_standsIn_23, s_X9_standsIn_26, s_X9_standsIn_27, s_X9_standsIn_30, s_X9_standsIn_31, s_X9_standsIn_32 hs.1, s_X9_standsIn_35, s_X9_standsIn_38, s_X9_standsIn_39, s_X9_standsIn_40, s_X9_standsIn_41, s_X9_standsIn_42, og_0, og_1, og_2, og_3, og_4, og_5, og_6, og_7, og_8, og_9, og_10, og_11, og_12, op_6, op_8, op_9, op_10, op_11, op_12, dg_0, dg_1, dg_2, dg_3, dp_1, dp_2, dp_3, ng_b, ng_d, mz_m, ms_m, ov_2, nset_d, nset_b, uI_1, uI_2, uR_1, uR_21, uR_22, va_rf, Bool.false_eq_true, ae_Ki, ae_Kb, ae_Kj, ae_Ka, ae_Si, ae_Sb, ae_Sj, ae_Sn, List.getElem?_cons_succ, List.getElem?_cons_zero, ↓reduceIte, if_true, if_false, nI_ofNat, true_or, or_true, false_or, or_false, true_and, and_true, false_and, and_false, or_self, and_self, not_true_eq_false, not_false_eq_true, eq_self, List.length_cons, List.length_nil, Nat.reduceAdd, Nat.reduceLT, Nat.reduceSub, List.set_cons_succ, List.set_cons_zero, Option.toList, List.nil_append, List.cons_append, cI_ltT, cI_ltF, cI_leT, cI_leF, cI_eqT, cI_eqF, cI_cl, cN_leT, cN_leF, cN_ltT, cN_ltF, cN_eqT, cN_eqF, cI_add, cI_sub, cI_m1a, cI_m1b, cI_m1c, cI_m1d, cI_m1e, cI_m1f, o0, o2, gA, gV, gE]
    · rw [if_neg c]
      rw [if_neg c] at gA
      have gV := fun Q => m_X10_isVariable (d := d + 1) (Q := Q) (h := G) (v := p.getD i 0) (by omega)
      rw [if_neg (by omega)] at gV
      simp (disch := first | exact ae_isR_ref _ | exact ae_isR_null | exact ae_isR_rf _ | exact ae_cat_ref _ | exact ae_cat_int _ | exact ae_cat_null | exact ae_cat_rf _ | exact ae_nz0 | exact ae_nz1 | exact ae_fz0 | exact ae_fz1 | exact cI_na (by omega) | exact cI_ix (by omega) | exact cI_nn (by omega) | exact cI_nz (by omega) | exact cI_cp (by omega) | assumption | omega) only [s_X9_standsIn_5, s_X9_standsIn_7, s_X9_standsIn_8, s_X9_standsIn_11, s_X9_standsIn_12, s_X9_standsIn_15, s_X9_standsIn_17 p1.1, s_X9_standsIn_20, s_X9_standsIn_23, s_X9_standsIn_26, s_X9_standsIn_27, s_X9_standsIn_30, s_X9_standsIn_31, s_X9_standsIn_32, s_X9_standsIn_35, s_X9_standsIn_38, s_X9_standsIn_39, s_X9_standsIn_40, s_X9_standsIn_41, s_X9_standsIn_42, og_0, og_1, og_2, og_3, og_4, og_5, og_6, og_7, og_8, og_9, og_10, og_11, og_12, op_6, op_8, op_9, op_10, op_11, op_12, dg_0, dg_1, dg_2, dg_3, dp_1, dp_2, dp_3, ng_b, ng_d, mz_m, ms_m, ov_2, nset_d, nset_b, uI_1, uI_2, uR_1, uR_21, uR_22, va_rf, Bool.false_eq_true, ae_Ki, ae_Kb, ae_Kj, ae_Ka, ae_Si, ae_Sb, ae_Sj, ae_Sn, List.getElem?_cons_succ, List.getElem?_cons_zero, ↓reduceIte, if_true, if_false, nI_ofNat, true_or, or_true, false_or, or_false, true_and, and_true, false_and, and_false, or_self, and_self, not_true_eq_false, not_false_eq_true, eq_self, List.length_cons, List.length_nil, Nat.reduceAdd, Nat.reduceLT, Nat.reduceSub, List.set_cons_succ, List.set_cons_zero, Option.toList, List.nil_append, List.cons_append, cI_ltT, cI_ltF, cI_leT, cI_leF, cI_eqT, cI_eqF, cI_cl, cN_leT, cN_leF, cN_ltT, cN_ltF, cN_eqT, cN_eqF, cI_add, cI_sub, cI_m1a, cI_m1b, cI_m1c, cI_m1d, cI_m1e, cI_m1f, o0, o2, gA, gV]
theorem m_X9_standsIn (hA : arl A ns ar) (hs : sym G (x + 1) ns ar fn) (ht : tmk G x) (hp : pat G x (pcm p)) (hpe : ∀ i, i < p.length → p.getD i 0 < ns ∨ p.getD i 0 = 99) {ra : Nat} {l : List Nat} {gl : Nat → Int32} (hL : nmb G (ra + 1) l.length gl l.length) (hl1 : rowl l gl) (hl2 : l.length ≤ 120) (hsm : sml l) {j : Nat} (hj : j < p.length) (hm : mtc A l p 0) : ae_wm (d + 2) mX9_standsIn [.ref (x + 11), .ref (ra + 1), .int (nI j)] G Q = Q (some (.int (nI (l.getD (wlk A l (p.take j) 0) 0)))) G := by
  have g := m_X9_si_loop (d := d) (Q := Q) hA hs ht hp hpe hL hl1 hl2 hsm hj hm j 0 (by omega)
  have e : wlk A l (p.take 0) 0 = 0 := rfl
  rw [e] at g
  simp (disch := first | exact ae_isR_ref _ | exact ae_isR_null | exact ae_isR_rf _ | exact ae_cat_ref _ | exact ae_cat_int _ | exact ae_cat_null | exact ae_cat_rf _ | exact ae_nz0 | exact ae_nz1 | exact ae_fz0 | exact ae_fz1 | exact cI_na (by omega) | exact cI_ix (by omega) | exact cI_nn (by omega) | exact cI_nz (by omega) | exact cI_cp (by omega) | assumption | omega) only [s_X9_standsIn_0, s_X9_standsIn_1, s_X9_standsIn_2, s_X9_standsIn_3, e_X9_standsIn, g]
end PLC
