/-! NarrowSolver.problem; NarrowSolver$Numbers: set, insert, remove -/
def linsert (l : List Nat) (i v : Nat) : List Nat := l.take i ++ v :: l.drop i
def lremove (l : List Nat) (i : Nat) : List Nat := l.take i ++ l.drop (i + 1)
section PRC
variable {d : Nat} {Q : Option Value → ah_H → Prop} {G : ah_H} {x c p : Nat} {P : Nat → Option Nat} {y : rS} {fw : Nat} {v : sV} {A : Nat → Nat} {ns : Nat} {ar fn : Nat → Int32} {F : Nat → Bool} {tp : List Nat}
theorem prb_inr {mn : Nat} (h : prb A ns tp = .inr mn) (ht : tp.length ≤ 120) : mn < 1000 ∧ (mn = 0 → tp = []) ∧ rn A tp (2 * mn) = some 0 ∧ ∀ i, i < tp.length → knw ns (tp.getD i 0) = true := by
  unfold prb at h
  cases e : prl A ns tp 121 0 0 with
  | inl v => rw [e] at h; cases h
  | inr t =>
    rw [e] at h
    dsimp only at h
    by_cases c : t % 2 = 1
    · rw [if_pos c] at h; cases h
    · rw [if_neg c] at h
      cases h
      obtain ⟨h1, h2, h3, h4⟩ := prl_inr 121 0 0 t (by omega) (by omega) e
      rw [List.drop_zero, Nat.sub_zero] at h1
      refine ⟨by omega, fun z => ?_, ?_, fun i hi => h4 i (by omega) hi⟩
      · have : t = 0 := by omega
        rw [this] at h1
        exact rn_zero h1
      · rw [show 2 * (t / 2) = t by omega]; exact h1
theorem m_X10_problem_bad (hf : fac G x) (hs : sym G (x + 1) ns ar fn) (hA : arl A ns ar) (ht : tpk G x tp) {f : Int32} (hp : prb A ns tp = .inl f) (hf0 : f < nI 0) : ∃ g, tpk (nset G (x + 4) 120 g 0) x [] ∧ ∀ Q, ae_wm (d + 3) mX10_problem [.ref x] G Q = Q (some (.int f)) (nset G (x + 4) 120 g 0) := by
  have ge := fun Q => m_X10_equationsOnTape (d := d) (Q := Q) hf hs hA ht
  rw [hp] at ge
  obtain ⟨g, t1, t2, t3, t4⟩ := ht
  have o1 : ∀ K, ae_gw G x 10 1 K = K (.ref (x + 4)) := fun K => by unfold ae_gw; rw [hf]; rfl
  have gE := fun Q => m_X1_empty (d := d + 2) (Q := Q) t1
  refine ⟨g, ⟨g, nset_nmb _ _ _ _ _, fun i hi => by simp at hi, by simp, fun i hi => by simp at hi⟩, fun Q => ?_⟩
  simp (disch := first | exact ae_isR_ref _ | exact ae_isR_null | exact ae_isR_rf _ | exact ae_cat_ref _ | exact ae_cat_int _ | exact ae_cat_null | exact ae_cat_rf _ | exact ae_nz0 | exact ae_nz1 | exact ae_fz0 | exact ae_fz1 | exact cI_na (by omega) | exact cI_ix (by omega) | exact cI_nn (by omega) | exact cI_nz (by omega) | exact cI_cp (by omega) | assumption | omega) only [s_X10_problem_0, s_X10_problem_1 hf, s_X10_problem_4, s_X10_problem_5, s_X10_problem_6, e_X10_problem, s_X10_problem_21, s_X10_problem_22, s_X10_problem_25 t1.1, s_X10_problem_28, s_X10_problem_29, og_0, og_1, og_2, og_3, og_4, og_5, og_6, og_7, og_8, og_9, og_10, og_11, og_12, op_6, op_8, op_9, op_10, op_11, op_12, dg_0, dg_1, dg_2, dg_3, dp_1, dp_2, dp_3, ng_b, ng_d, mz_m, ms_m, ov_2, nset_d, nset_b, uI_1, uI_2, uR_1, uR_21, uR_22, va_rf, Bool.false_eq_true, ae_Ki, ae_Kb, ae_Kj, ae_Ka, ae_Si, ae_Sb, ae_Sj, ae_Sn, List.getElem?_cons_succ, List.getElem?_cons_zero, ↓reduceIte, if_true, if_false, nI_ofNat, true_or, or_true, false_or, or_false, true_and, and_true, false_and, and_false, or_self, and_self, not_true_eq_false, not_false_eq_true, eq_self, List.length_cons, List.length_nil, Nat.reduceAdd, Nat.reduceLT, Nat.reduceSub, List.set_cons_succ, List.set_cons_zero, Option.toList, List.nil_append, List.cons_append, cI_ltT, cI_ltF, cI_leT, cI_leF, cI_eqT, cI_eqF, cI_cl, cN_leT, cN_leF, cN_ltT, cN_ltF, cN_eqT, cN_eqF, cI_add, cI_sub, cI_m1a, cI_m1b, cI_m1c, cI_m1d, cI_m1e, cI_m1f, ge, rdv, ng_lt hf0, o1, gE]
theorem m_X10_problem (hf : fac G x) (hs : sym G (x + 1) ns ar fn) (hA : arl A ns ar) (ht : tpk G x tp) (hS : cS G x P c p y fw v) {mn : Nat} (hp : prb A ns tp = .inr mn) : ∃ G2 P2 p2 y2 k g, (∀ Q, ae_wm (d + 5) mX10_problem [.ref x] G Q = Q (some (.int (nI mn))) (nset G2 (x + 4) 120 g 0)) ∧ cS G2 x P2 c p2 y2 0 (svb tp mn) ∧ frT G G2 x P P2 k := by
  have ge := fun Q => m_X10_equationsOnTape (d := d + 2) (Q := Q) hf hs hA ht
  rw [hp] at ge
  have ht0 := ht
  obtain ⟨g, t1, t2, t3, t4⟩ := ht0
  obtain ⟨b1, b2, _, _⟩ := prb_inr hp t3
  obtain ⟨G2, P2, p2', y2, k, c1, c2, c3⟩ := m_X6_begin (d := d) hS ht b1 b2
  have s3 := hS.2.2.1
  have s9 := hS.2.2.2.2.2.2.2.2
  have hE : ∀ b, x ≤ b → b ≤ x + 5 → G2.1 b = G.1 b := fun b h1 h2 => c3.1 b (by omega) (by omega) (fun i b2 hi => by have := s3.2 i b2 hi; omega)
  have o1 : ∀ K, ae_gw G x 10 1 K = K (.ref (x + 4)) := fun K => by unfold ae_gw; rw [hf]; rfl
  have o3 : ∀ K, ae_gw G x 10 3 K = K (.ref (x + 15)) := fun K => by unfold ae_gw; rw [hf]; rfl
  have o1' : ∀ K, ae_gw G2 x 10 1 K = K (.ref (x + 4)) := fun K => by unfold ae_gw; rw [hE x (by omega) (by omega), hf]; rfl
  have g15 : G.1 (x + 15) = some (.inr (6, of6 x c p y)) := by rw [hS.2.2.2.1]; exact ov_15
  have t1' : nmb G2 (x + 4) 120 g tp.length := ⟨by rw [hE _ (by omega) (by omega)]; exact t1.1, by rw [hE _ (by omega) (by omega)]; exact t1.2⟩
  have gE := fun Q => m_X1_empty (d := d + 4) (Q := Q) t1'
  refine ⟨G2, P2, p2', y2, k, g, fun Q => ?_, c2, c3⟩
  simp (disch := first | exact ae_isR_ref _ | exact ae_isR_null | exact ae_isR_rf _ | exact ae_cat_ref _ | exact ae_cat_int _ | exact ae_cat_null | exact ae_cat_rf _ | exact ae_nz0 | exact ae_nz1 | exact ae_fz0 | exact ae_fz1 | exact cI_na (by omega) | exact cI_ix (by omega) | exact cI_nn (by omega) | exact cI_nz (by omega) | exact cI_cp (by omega) | assumption | omega) only [s_X10_problem_0, s_X10_problem_1 hf, s_X10_problem_4, s_X10_problem_5, s_X10_problem_6, s_X10_problem_9, s_X10_problem_10, s_X10_problem_13, s_X10_problem_14, s_X10_problem_17, s_X10_problem_18 g15, s_X10_problem_21, s_X10_problem_22, s_X10_problem_25 t1'.1, s_X10_problem_28, s_X10_problem_29, e_X10_problem, og_0, og_1, og_2, og_3, og_4, og_5, og_6, og_7, og_8, og_9, og_10, og_11, og_12, op_6, op_8, op_9, op_10, op_11, op_12, dg_0, dg_1, dg_2, dg_3, dp_1, dp_2, dp_3, ng_b, ng_d, mz_m, ms_m, ov_2, nset_d, nset_b, uI_1, uI_2, uR_1, uR_21, uR_22, va_rf, Bool.false_eq_true, ae_Ki, ae_Kb, ae_Kj, ae_Ka, ae_Si, ae_Sb, ae_Sj, ae_Sn, List.getElem?_cons_succ, List.getElem?_cons_zero, ↓reduceIte, if_true, if_false, nI_ofNat, true_or, or_true, false_or, or_false, true_and, and_true, false_and, and_false, or_self, and_self, not_true_eq_false, not_false_eq_true, eq_self, List.length_cons, List.length_nil, Nat.reduceAdd, Nat.reduceLT, Nat.reduceSub, List.set_cons_succ, List.set_cons_zero, Option.toList, List.nil_append, List.cons_append, cI_ltT, cI_ltF, cI_leT, cI_leF, cI_eqT, cI_eqF, cI_cl, cN_leT, cN_leF, cN_ltT, cN_ltF, cN_eqT, cN_eqF, cI_add, cI_sub, cI_m1a, cI_m1b, cI_m1c, cI_m1d, cI_m1e, cI_m1f, ge, rdv, o1, o3, c1, o1', gE]
end PRC
section INS
variable {d : Nat} {Q : Option Value → ah_H → Prop} {h : ah_H} {q n i w : Nat} {f : Nat → Int32} {l : List Nat}
theorem m_X1_set (hq : nmb h q n f l.length) (hr : rowl l f) (hn : l.length ≤ n) (hn2 : n < 10000) (hi : i < l.length) : ∃ f2, (∀ Q, ae_wm d mX1_set [.ref q, .int (nI i), .int (nI w)] h Q = Q none (nset h q n f2 l.length)) ∧ rowl (l.set i w) f2 := by
  refine ⟨upd f i (nI w), fun Q => ?_, fun j hj => ?_⟩
  · have e : nset h q n (upd f i (nI w)) l.length = ah_set h (q + 1) (.inl (0, n, .inl (upd f i (nI w)))) := by
      unfold nset
      exact hs_same (by rw [hs_ne (by omega)]; exact hq.1)
    rw [e]
    simp (disch := first | exact ae_isR_ref _ | exact ae_isR_null | exact ae_isR_rf _ | exact ae_cat_ref _ | exact ae_cat_int _ | exact ae_cat_null | exact ae_cat_rf _ | exact ae_nz0 | exact ae_nz1 | exact ae_fz0 | exact ae_fz1 | exact cI_na (by omega) | exact cI_ix (by omega) | exact cI_nn (by omega) | exact cI_nz (by omega) | exact cI_cp (by omega) | assumption | omega) only [s_X1_set_0, s_X1_set_1, s_X1_set_4, s_X1_set_5, s_X1_set_6, s_X1_set_9, s_X1_set_12, s_X1_set_13, s_X1_set_14, s_X1_set_17, s_X1_set_18, s_X1_set_21, s_X1_set_22, s_X1_set_25, s_X1_set_26, s_X1_set_27, s_X1_set_28, e_X1_set, Bool.false_eq_true, ae_gw, ae_pw, ae_zw, ae_Ki, ae_Kb, ae_Kj, ae_Ka, ae_Si, ae_Sb, ae_Sj, ae_Sn, List.getElem?_cons_succ, List.getElem?_cons_zero, ↓reduceIte, if_true, if_false, nI_ofNat, true_or, or_true, false_or, or_false, true_and, and_true, false_and, and_false, or_self, and_self, not_true_eq_false, not_false_eq_true, eq_self, List.length_cons, List.length_nil, Nat.reduceAdd, Nat.reduceLT, Nat.reduceSub, List.set_cons_succ, List.set_cons_zero, Option.toList, List.nil_append, List.cons_append, cI_ltT, cI_ltF, cI_leT, cI_leF, cI_eqT, cI_eqF, cI_cl, cN_leT, cN_leF, cN_ltT, cN_ltF, cN_eqT, cN_eqF, cI_add, cI_sub, cI_m1a, cI_m1b, cI_m1c, cI_m1d, cI_m1e, cI_m1f, hs_eq, hs_ne, hs_2, hs_hs, hn_eq, hn_ne, hn_21, hn_22, hn_23, hq.1, hq.2]
  · rw [List.length_set] at hj
    simp only [upd]
    by_cases c : j = i
    · subst c
      rw [if_pos rfl]
      simp [List.getD_eq_getElem?_getD, hj]
    · rw [if_neg c, hr j hj]
      congr 1
      simp [List.getD_eq_getElem?_getD, List.getElem?_set_ne (Ne.symm c)]
theorem m_X1_insert (hq : nmb h q n f l.length) (hr : rowl l f) (hn : l.length < n) (hn2 : n < 10000) (hi : i ≤ l.length) : ∃ f2, (∀ Q, ae_wm d mX1_insert [.ref q, .int (nI i), .int (nI w)] h Q = Q none (nset h q n f2 (l.length + 1))) ∧ rowl (linsert l i w) f2 := by
  refine ⟨upd (va_cpy f f i (i + 1) (l.length - i)) i (nI w), fun Q => ?_, fun j hj => ?_⟩
  · have st := fun (l0 l1 l2 : Option Value) Q => s_X1_insert_43 (d := d) (Q := Q) (l0 := l0) (l1 := l1) (l2 := l2) (k := nI (l.length - i)) (dp := nI (i + 1)) (sp := nI i) hq.2 hq.2 (cI_nn (by omega)) (cI_nn (by omega)) (cI_nn (by omega)) (cI_cp (by omega)) (cI_cp (by omega))
    simp only [cI_cl (show i < 2147483648 by omega), cI_cl (show i + 1 < 2147483648 by omega), cI_cl (show l.length - i < 2147483648 by omega)] at st
    simp (disch := first | exact ae_isR_ref _ | exact ae_isR_null | exact ae_isR_rf _ | exact ae_cat_ref _ | exact ae_cat_int _ | exact ae_cat_null | exact ae_cat_rf _ | exact ae_nz0 | exact ae_nz1 | exact ae_fz0 | exact ae_fz1 | exact cI_na (by omega) | exact cI_ix (by omega) | exact cI_nn (by omega) | exact cI_nz (by omega) | exact cI_cp (by omega) | assumption | omega) only [s_X1_insert_0, s_X1_insert_1, s_X1_insert_4, s_X1_insert_5, s_X1_insert_6, s_X1_insert_9, s_X1_insert_12, s_X1_insert_13, s_X1_insert_16, s_X1_insert_17, s_X1_insert_20, s_X1_insert_21, s_X1_insert_24, s_X1_insert_25, s_X1_insert_26, s_X1_insert_29, s_X1_insert_30, s_X1_insert_31, s_X1_insert_34, s_X1_insert_35, s_X1_insert_36, s_X1_insert_37, s_X1_insert_38, s_X1_insert_41, s_X1_insert_42, e_X1_insert, st, s_X1_insert_46, s_X1_insert_47, s_X1_insert_50, s_X1_insert_51, s_X1_insert_52, s_X1_insert_53, s_X1_insert_54, s_X1_insert_55, s_X1_insert_58, s_X1_insert_59, s_X1_insert_60, s_X1_insert_63, Bool.false_eq_true, ae_gw, ae_pw, ae_zw, ae_Ki, ae_Kb, ae_Kj, ae_Ka, ae_Si, ae_Sb, ae_Sj, ae_Sn, List.getElem?_cons_succ, List.getElem?_cons_zero, ↓reduceIte, if_true, if_false, nI_ofNat, true_or, or_true, false_or, or_false, true_and, and_true, false_and, and_false, or_self, and_self, not_true_eq_false, not_false_eq_true, eq_self, List.length_cons, List.length_nil, Nat.reduceAdd, Nat.reduceLT, Nat.reduceSub, List.set_cons_succ, List.set_cons_zero, Option.toList, List.nil_append, List.cons_append, cI_ltT, cI_ltF, cI_leT, cI_leF, cI_eqT, cI_eqF, cI_cl, cN_leT, cN_leF, cN_ltT, cN_ltF, cN_eqT, cN_eqF, cI_add, cI_sub, cI_m1a, cI_m1b, cI_m1c, cI_m1d, cI_m1e, cI_m1f, hs_eq, hs_ne, hs_2, hs_hs, hn_eq, hn_ne, hn_21, hn_22, hn_23, hq.1, hq.2, nset]
  · have hll : (linsert l i w).length = l.length + 1 := by
      simp only [linsert, List.length_append, List.length_take, List.length_cons, List.length_drop]; omega
    rw [hll] at hj
    have htl : (l.take i).length = i := by rw [List.length_take]; omega
    simp only [upd, va_cpy]
    by_cases c : j = i
    · subst c
      rw [if_pos rfl]
      congr 1
      simp only [linsert, List.getD_eq_getElem?_getD]
      rw [List.getElem?_append_right (by omega), htl, Nat.sub_self]
      rfl
    · rw [if_neg c]
      by_cases c2 : j < i
      · rw [if_neg (by omega), hr j (by omega)]
        congr 1
        simp only [linsert, List.getD_eq_getElem?_getD]
        rw [List.getElem?_append_left (by omega), List.getElem?_take_of_lt c2]
      · rw [if_pos (by omega)]
        have e1 : i + (j - (i + 1)) = j - 1 := by omega
        rw [e1, hr (j - 1) (by omega)]
        congr 1
        simp only [linsert, List.getD_eq_getElem?_getD]
        rw [List.getElem?_append_right (by omega), htl]
        obtain ⟨t, ht⟩ : ∃ t, j - i = t + 1 := ⟨j - i - 1, by omega⟩
        rw [ht, List.getElem?_cons_succ, List.getElem?_drop]
        congr 2
        omega
theorem m_X1_remove (hq : nmb h q n f l.length) (hr : rowl l f) (hn : l.length ≤ n) (hn2 : n < 10000) (hi : i < l.length) : ∃ f2, (∀ Q, ae_wm d mX1_remove [.ref q, .int (nI i)] h Q = Q none (nset h q n f2 (l.length - 1))) ∧ rowl (lremove l i) f2 := by
  refine ⟨va_cpy f f (i + 1) i (l.length - i - 1), fun Q => ?_, fun j hj => ?_⟩
  · have st := fun (l0 l1 : Option Value) Q => s_X1_remove_45 (d := d) (Q := Q) (l0 := l0) (l1 := l1) (k := nI (l.length - i - 1)) (dp := nI i) (sp := nI (i + 1)) hq.2 hq.2 (cI_nn (by omega)) (cI_nn (by omega)) (cI_nn (by omega)) (cI_cp (by omega)) (cI_cp (by omega))
    simp only [cI_cl (show i < 2147483648 by omega), cI_cl (show i + 1 < 2147483648 by omega), cI_cl (show l.length - i - 1 < 2147483648 by omega)] at st
    simp (disch := first | exact ae_isR_ref _ | exact ae_isR_null | exact ae_isR_rf _ | exact ae_cat_ref _ | exact ae_cat_int _ | exact ae_cat_null | exact ae_cat_rf _ | exact ae_nz0 | exact ae_nz1 | exact ae_fz0 | exact ae_fz1 | exact cI_na (by omega) | exact cI_ix (by omega) | exact cI_nn (by omega) | exact cI_nz (by omega) | exact cI_cp (by omega) | assumption | omega) only [s_X1_remove_0, s_X1_remove_1, s_X1_remove_4, s_X1_remove_5, s_X1_remove_6, s_X1_remove_9, s_X1_remove_12, s_X1_remove_13, s_X1_remove_16, s_X1_remove_17, s_X1_remove_20, s_X1_remove_21, s_X1_remove_24, s_X1_remove_25, s_X1_remove_26, s_X1_remove_29, s_X1_remove_30, s_X1_remove_31, s_X1_remove_32, s_X1_remove_33, s_X1_remove_36, s_X1_remove_37, s_X1_remove_38, s_X1_remove_41, s_X1_remove_42, s_X1_remove_43, s_X1_remove_44, e_X1_remove, st, s_X1_remove_48, s_X1_remove_49, s_X1_remove_50, s_X1_remove_53, s_X1_remove_54, s_X1_remove_55, s_X1_remove_58, Bool.false_eq_true, ae_gw, ae_pw, ae_zw, ae_Ki, ae_Kb, ae_Kj, ae_Ka, ae_Si, ae_Sb, ae_Sj, ae_Sn, List.getElem?_cons_succ, List.getElem?_cons_zero, ↓reduceIte, if_true, if_false, nI_ofNat, true_or, or_true, false_or, or_false, true_and, and_true, false_and, and_false, or_self, and_self, not_true_eq_false, not_false_eq_true, eq_self, List.length_cons, List.length_nil, Nat.reduceAdd, Nat.reduceLT, Nat.reduceSub, List.set_cons_succ, List.set_cons_zero, Option.toList, List.nil_append, List.cons_append, cI_ltT, cI_ltF, cI_leT, cI_leF, cI_eqT, cI_eqF, cI_cl, cN_leT, cN_leF, cN_ltT, cN_ltF, cN_eqT, cN_eqF, cI_add, cI_sub, cI_m1a, cI_m1b, cI_m1c, cI_m1d, cI_m1e, cI_m1f, hs_eq, hs_ne, hs_2, hs_hs, hn_eq, hn_ne, hn_21, hn_22, hn_23, hq.1, hq.2, nset]
  · have htl : (l.take i).length = i := by rw [List.length_take]; omega
    have hll : (lremove l i).length = l.length - 1 := by
      simp only [lremove, List.length_append, List.length_take, List.length_drop]; omega
    rw [hll] at hj
    simp only [va_cpy]
    by_cases c2 : j < i
    · rw [if_neg (by omega), hr j (by omega)]
      congr 1
      simp only [lremove, List.getD_eq_getElem?_getD]
      rw [List.getElem?_append_left (by omega), List.getElem?_take_of_lt c2]
    · rw [if_pos (by omega)]
      have e1 : i + 1 + (j - i) = j + 1 := by omega
      rw [e1, hr (j + 1) (by omega)]
      congr 1
      simp only [lremove, List.getD_eq_getElem?_getD]
      rw [List.getElem?_append_right (by omega), htl, List.getElem?_drop]
      congr 2
      omega
end INS
