/-! NarrowSolver.node -/
theorem ndF_fd {G : ah_H} {ad : Nat → Option Nat} {L : List nd} {k t : Nat} {bs as : List Nat} (h24 : bs.length ≤ 24) (ht : 3 ≤ t ∧ t < 2147483648) (h10 : ∀ t b : Nat, bs[t]? = some b → 0 ≤ b ∧ b < 0 + L.length ∧ ∃ a2 : Nat, as[t]? = some a2 ∧ ad b = some a2 ∧ nfl G a2 0 = some (.int (nI b))) (h11 : ∀ j, j < L.length → ∀ t : Nat, (nat L j).2.2.2 = (nI (0 + k), t) ↔ bs[t]? = some (0 + j)) : fdF (ndc L k t) L.length 0 = bs[t - 3]? := by
  have key : ∀ j, j < L.length → (ndc L k t j = true ↔ bs[t - 3]? = some j) := fun j hj => by
    unfold ndc
    rw [Bool.and_eq_true, decide_eq_true_iff, decide_eq_true_iff]
    have h := h11 j hj
    simp only [Nat.zero_add] at h
    constructor
    · rintro ⟨z1, z2⟩
      have z3 := (h (nat L j).2.2.2.2).mp (by rw [← z1])
      have z4 : (nat L j).2.2.2.2 < bs.length := by
        by_cases c : (nat L j).2.2.2.2 < bs.length
        · exact c
        · rw [List.getElem?_eq_none (by omega)] at z3; cases z3
      rw [nI_ij (by omega) (by omega) z2] at z3
      exact z3
    · intro z
      have z3 := (h (t - 3)).mpr z
      rw [z3]
      exact ⟨rfl, rfl⟩
  cases e : bs[t - 3]? with
  | none =>
    rw [fdF_none]
    intro j _ hj
    cases hz : ndc L k t j with
    | false => rfl
    | true =>
      rw [(key j (by omega)).mp hz] at e
      cases e
  | some b =>
    have hb := h10 _ b e
    rw [fdF_some]
    refine ⟨by omega, by omega, (key b (by omega)).mpr e, fun j _ hj => ?_⟩
    cases hz : ndc L k t j with
    | false => rfl
    | true =>
      rw [(key j (by omega)).mp hz] at e
      cases e
      omega
section NOD
variable {d : Nat} {Q : Option Value → ah_H → Prop} {G : ah_H} {x b ns : Nat} {A : Nat → Nat} {F : Nat → Bool} {tp : List Nat} {rl : mR} {v : sV} {B1 B2 j : Nat}
theorem m_X0_nc_loop {a i : Nat} (hi : i < 1000) {w : Int32} {a2 : Nat} (hw : nfl G a2 0 = some (.int w)) : ∀ (m c : Nat) (as : List Nat) (u : Value), c + m = i → chA G as u → as[m]? = some a2 → ae_wp d mX0_numberOfChild 21 [some (.ref a), some (.int (nI i)), some u, some (.int (nI c))] [] G Q = Q (some (.int w)) G := by
  intro m
  induction m with
  | zero =>
    intro c as u hc h1 h2
    cases as with
    | nil => cases h2
    | cons a3 as =>
      have e : a3 = a2 := by simpa using h2
      subst e
      obtain ⟨rfl, -⟩ := h1
      have o0 : ∀ K, ae_gw G a3 0 0 K = K (.int w) := fun K => gw_nfl hw
      simp (disch := first | exact ae_isR_ref _ | exact ae_isR_null | exact ae_isR_rf _ | exact ae_cat_ref _ | exact ae_cat_int _ | exact ae_cat_null | exact ae_cat_rf _ | exact ae_nz0 | exact ae_nz1 | exact ae_fz0 | exact ae_fz1 | exact cI_na (by omega) | exact cI_ix (by omega) | exact cI_nn (by omega) | exact cI_nz (by omega) | exact cI_cp (by omega) | assumption | omega) only [s_X0_numberOfChild_21, s_X0_numberOfChild_22, s_X0_numberOfChild_23, s_X0_numberOfChild_41, s_X0_numberOfChild_42, s_X0_numberOfChild_42_N, s_X0_numberOfChild_45, s_X0_numberOfChild_46, s_X0_numberOfChild_49, s_X0_numberOfChild_50, s_X0_numberOfChild_53, og_0, og_1, og_2, og_3, og_4, og_5, og_6, og_7, og_8, og_9, og_10, og_11, og_12, op_6, op_8, op_9, op_10, op_11, op_12, dg_0, dg_1, dg_2, dg_3, dp_1, dp_2, dp_3, ng_b, ng_d, mz_m, ms_m, ov_2, nset_d, nset_b, uI_1, uI_2, uR_1, uR_21, uR_22, va_rf, Bool.false_eq_true, ae_Ki, ae_Kb, ae_Kj, ae_Ka, ae_Si, ae_Sb, ae_Sj, ae_Sn, List.getElem?_cons_succ, List.getElem?_cons_zero, ↓reduceIte, if_true, if_false, nI_ofNat, true_or, or_true, false_or, or_false, true_and, and_true, false_and, and_false, or_self, and_self, not_true_eq_false, not_false_eq_true, eq_self, List.length_cons, List.length_nil, Nat.reduceAdd, Nat.reduceLT, Nat.reduceSub, List.set_cons_succ, List.set_cons_zero, Option.toList, List.nil_append, List.cons_append, cI_ltT, cI_ltF, cI_leT, cI_leF, cI_eqT, cI_eqF, cI_cl, cN_leT, cN_leF, cN_ltT, cN_ltF, cN_eqT, cN_eqF, cI_add, cI_sub, cI_m1a, cI_m1b, cI_m1c, cI_m1d, cI_m1e, cI_m1f, o0]
  | succ m ih =>
    intro c as u hc h1 h2
    cases as with
    | nil => cases h2
    | cons a3 as =>
      obtain ⟨rfl, nx, h3, h4⟩ := h1
      have o6 : ∀ K, ae_gw G a3 0 6 K = K nx := fun K => gw_nfl h3
      have hnx := chA_isR _ _ h4
      refine Eq.trans ?_ (s_X0_numberOfChild_38.trans (ih (c + 1) as nx (by omega) h4 (by simpa using h2)))
      simp (disch := first | exact ae_isR_ref _ | exact ae_isR_null | exact ae_isR_rf _ | exact ae_cat_ref _ | exact ae_cat_int _ | exact ae_cat_null | exact ae_cat_rf _ | exact ae_nz0 | exact ae_nz1 | exact ae_fz0 | exact ae_fz1 | exact cI_na (by omega) | exact cI_ix (by omega) | exact cI_nn (by omega) | exact cI_nz (by omega) | exact cI_cp (by omega) | assumption | omega) only [s_X0_numberOfChild_21, s_X0_numberOfChild_22, s_X0_numberOfChild_23, s_X0_numberOfChild_26, s_X0_numberOfChild_27_N, s_X0_numberOfChild_27, s_X0_numberOfChild_30, s_X0_numberOfChild_31, s_X0_numberOfChild_34, s_X0_numberOfChild_35, og_0, og_1, og_2, og_3, og_4, og_5, og_6, og_7, og_8, og_9, og_10, og_11, og_12, op_6, op_8, op_9, op_10, op_11, op_12, dg_0, dg_1, dg_2, dg_3, dp_1, dp_2, dp_3, ng_b, ng_d, mz_m, ms_m, ov_2, nset_d, nset_b, uI_1, uI_2, uR_1, uR_21, uR_22, va_rf, Bool.false_eq_true, ae_Ki, ae_Kb, ae_Kj, ae_Ka, ae_Si, ae_Sb, ae_Sj, ae_Sn, List.getElem?_cons_succ, List.getElem?_cons_zero, ↓reduceIte, if_true, if_false, nI_ofNat, true_or, or_true, false_or, or_false, true_and, and_true, false_and, and_false, or_self, and_self, not_true_eq_false, not_false_eq_true, eq_self, List.length_cons, List.length_nil, Nat.reduceAdd, Nat.reduceLT, Nat.reduceSub, List.set_cons_succ, List.set_cons_zero, Option.toList, List.nil_append, List.cons_append, cI_ltT, cI_ltF, cI_leT, cI_leF, cI_eqT, cI_eqF, cI_cl, cN_leT, cN_leF, cN_ltT, cN_ltF, cN_eqT, cN_eqF, cI_add, cI_sub, cI_m1a, cI_m1b, cI_m1c, cI_m1d, cI_m1e, cI_m1f, o6]
theorem m_X0_numberOfChild {a i n : Nat} {fc : Value} {as bs : List Nat} (hn : n ≤ 24) (h4 : nfl G a 4 = some (.int (nI n))) (h5 : nfl G a 5 = some fc) (hc : chA G as fc) (ha : as.length = n) (hbl : bs.length = n) (hb : ∀ t b : Nat, bs[t]? = some b → ∃ a2 : Nat, as[t]? = some a2 ∧ nfl G a2 0 = some (.int (nI b))) (hi : i < 2147483648) : ae_wm d mX0_numberOfChild [.ref a, .int (nI i)] G Q = Q (some (.int (locv (bs[i]?)))) G := by
  have o4 : ∀ K, ae_gw G a 0 4 K = K (.int (nI n)) := fun K => gw_nfl h4
  have o5 : ∀ K, ae_gw G a 0 5 K = K fc := fun K => gw_nfl h5
  have hfc := chA_isR _ _ hc
  by_cases c : i < n
  · have e : bs[i]? = some bs[i] := List.getElem?_eq_getElem (by omega)
    obtain ⟨a2, b1, b2⟩ := hb i _ e
    have g := m_X0_nc_loop (d := d) (Q := Q) (a := a) (show i < 1000 by omega) b2 i 0 as fc (by omega) hc b1
    rw [e]
    have e2 : locv (some bs[i]) = nI bs[i] := rfl
    rw [e2]
    simp (disch := first | exact ae_isR_ref _ | exact ae_isR_null | exact ae_isR_rf _ | exact ae_cat_ref _ | exact ae_cat_int _ | exact ae_cat_null | exact ae_cat_rf _ | exact ae_nz0 | exact ae_nz1 | exact ae_fz0 | exact ae_fz1 | exact cI_na (by omega) | exact cI_ix (by omega) | exact cI_nn (by omega) | exact cI_nz (by omega) | exact cI_cp (by omega) | assumption | omega) only [s_X0_numberOfChild_0, s_X0_numberOfChild_1, s_X0_numberOfChild_4, s_X0_numberOfChild_5, s_X0_numberOfChild_6, s_X0_numberOfChild_9, s_X0_numberOfChild_12, s_X0_numberOfChild_13, s_X0_numberOfChild_14, s_X0_numberOfChild_15, s_X0_numberOfChild_18, s_X0_numberOfChild_19, s_X0_numberOfChild_20, e_X0_numberOfChild, og_0, og_1, og_2, og_3, og_4, og_5, og_6, og_7, og_8, og_9, og_10, og_11, og_12, op_6, op_8, op_9, op_10, op_11, op_12, dg_0, dg_1, dg_2, dg_3, dp_1, dp_2, dp_3, ng_b, ng_d, mz_m, ms_m, ov_2, nset_d, nset_b, uI_1, uI_2, uR_1, uR_21, uR_22, va_rf, Bool.false_eq_true, ae_Ki, ae_Kb, ae_Kj, ae_Ka, ae_Si, ae_Sb, ae_Sj, ae_Sn, List.getElem?_cons_succ, List.getElem?_cons_zero, ↓reduceIte, if_true, if_false, nI_ofNat, true_or, or_true, false_or, or_false, true_and, and_true, false_and, and_false, or_self, and_self, not_true_eq_false, not_false_eq_true, eq_self, List.length_cons, List.length_nil, Nat.reduceAdd, Nat.reduceLT, Nat.reduceSub, List.set_cons_succ, List.set_cons_zero, Option.toList, List.nil_append, List.cons_append, cI_ltT, cI_ltF, cI_leT, cI_leF, cI_eqT, cI_eqF, cI_cl, cN_leT, cN_leF, cN_ltT, cN_ltF, cN_eqT, cN_eqF, cI_add, cI_sub, cI_m1a, cI_m1b, cI_m1c, cI_m1d, cI_m1e, cI_m1f, o4, o5, g]
  · rw [List.getElem?_eq_none (by omega)]
    have e2 : locv none = -1 := rfl
    rw [e2]
    simp (disch := first | exact ae_isR_ref _ | exact ae_isR_null | exact ae_isR_rf _ | exact ae_cat_ref _ | exact ae_cat_int _ | exact ae_cat_null | exact ae_cat_rf _ | exact ae_nz0 | exact ae_nz1 | exact ae_fz0 | exact ae_fz1 | exact cI_na (by omega) | exact cI_ix (by omega) | exact cI_nn (by omega) | exact cI_nz (by omega) | exact cI_cp (by omega) | assumption | omega) only [s_X0_numberOfChild_0, s_X0_numberOfChild_1, s_X0_numberOfChild_4, s_X0_numberOfChild_5, s_X0_numberOfChild_6, s_X0_numberOfChild_9, s_X0_numberOfChild_12, s_X0_numberOfChild_13, e_X0_numberOfChild, og_0, og_1, og_2, og_3, og_4, og_5, og_6, og_7, og_8, og_9, og_10, og_11, og_12, op_6, op_8, op_9, op_10, op_11, op_12, dg_0, dg_1, dg_2, dg_3, dp_1, dp_2, dp_3, ng_b, ng_d, mz_m, ms_m, ov_2, nset_d, nset_b, uI_1, uI_2, uR_1, uR_21, uR_22, va_rf, Bool.false_eq_true, ae_Ki, ae_Kb, ae_Kj, ae_Ka, ae_Si, ae_Sb, ae_Sj, ae_Sn, List.getElem?_cons_succ, List.getElem?_cons_zero, ↓reduceIte, if_true, if_false, nI_ofNat, true_or, or_true, false_or, or_false, true_and, and_true, false_and, and_false, or_self, and_self, not_true_eq_false, not_false_eq_true, eq_self, List.length_cons, List.length_nil, Nat.reduceAdd, Nat.reduceLT, Nat.reduceSub, List.set_cons_succ, List.set_cons_zero, Option.toList, List.nil_append, List.cons_append, cI_ltT, cI_ltF, cI_leT, cI_leF, cI_eqT, cI_eqF, cI_cl, cN_leT, cN_leF, cN_ltT, cN_ltF, cN_eqT, cN_eqF, cI_add, cI_sub, cI_m1a, cI_m1b, cI_m1c, cI_m1d, cI_m1e, cI_m1f, o4]
theorem m_X7_isFunction_ng {f : Int32} {q : Nat} {ar fn : Nat → Int32} (hq : sym G q ns ar fn) (hf : f < nI 0) : ae_wm d mX7_isFunction [.ref q, .int f] G Q = Q (some (.int (nI 0))) G := by
  have e : (f < nI 0) = True := eq_true hf
  have e2 := ng_le hf
  simp (disch := first | exact ae_isR_ref _ | exact ae_isR_null | exact ae_isR_rf _ | exact ae_cat_ref _ | exact ae_cat_int _ | exact ae_cat_null | exact ae_cat_rf _ | exact ae_nz0 | exact ae_nz1 | exact ae_fz0 | exact ae_fz1 | exact cI_na (by omega) | exact cI_ix (by omega) | exact cI_nn (by omega) | exact cI_nz (by omega) | exact cI_cp (by omega) | assumption | omega) only [s_X7_isFunction_0, s_X7_isFunction_1, s_X7_isFunction_4, s_X7_isFunction_5, s_X7_isFunction_6, s_X7_isFunction_9, s_X7_isFunction_12, s_X7_isFunction_13, s_X7_isFunction_16, s_X7_isFunction_17, s_X7_isFunction_18, s_X7_isFunction_21, s_X7_isFunction_22, s_X7_isFunction_25, s_X7_isFunction_26, e_X7_isFunction, Bool.false_eq_true, ae_gw, ae_pw, ae_zw, ae_Ki, ae_Kb, ae_Kj, ae_Ka, ae_Si, ae_Sb, ae_Sj, ae_Sn, List.getElem?_cons_succ, List.getElem?_cons_zero, ↓reduceIte, if_true, if_false, nI_ofNat, true_or, or_true, false_or, or_false, true_and, and_true, false_and, and_false, or_self, and_self, not_true_eq_false, not_false_eq_true, eq_self, List.length_cons, List.length_nil, Nat.reduceAdd, Nat.reduceLT, Nat.reduceSub, List.set_cons_succ, List.set_cons_zero, Option.toList, List.nil_append, List.cons_append, cI_ltT, cI_ltF, cI_leT, cI_leF, cI_eqT, cI_eqF, cI_cl, cN_leT, cN_leF, cN_ltT, cN_ltF, cN_eqT, cN_eqF, cI_add, cI_sub, cI_m1a, cI_m1b, cI_m1c, cI_m1d, cI_m1e, cI_m1f, hs_eq, hs_ne, hs_2, hs_hs, hn_eq, hn_ne, hn_21, hn_22, hn_23, hq.1, hq.2.1, e, e2]
theorem m_X10_node_f {f k t : Int32} (h : CIz G x b ns A F tp rl v B1 B2 j) (hf : f < nI 0) : ae_wm (d + 5) mX10_node [.ref x, .int f, .int k, .int t] G Q = Q (some (.int (-2))) G := by
  obtain ⟨P, c, p, y, fw, ar, fn, ro, sp, lf, tf, T, nn, cc, fe, hc, -⟩ := h
  obtain ⟨k1, ⟨k2, k2a, k2f⟩, k3, k4, k5, k6, k7⟩ := hc
  have o0 : ∀ K, ae_gw G x 10 0 K = K (.ref (x + 1)) := fun K => by unfold ae_gw; rw [k1]; rfl
  have g := fun Q => m_X7_isFunction_ng (d := d + 4) (Q := Q) k2 hf
  have k21 := k2.1
  simp (disch := first | exact ae_isR_ref _ | exact ae_isR_null | exact ae_isR_rf _ | exact ae_cat_ref _ | exact ae_cat_int _ | exact ae_cat_null | exact ae_cat_rf _ | exact ae_nz0 | exact ae_nz1 | exact ae_fz0 | exact ae_fz1 | exact cI_na (by omega) | exact cI_ix (by omega) | exact cI_nn (by omega) | exact cI_nz (by omega) | exact cI_cp (by omega) | assumption | omega) only [s_X10_node_0, s_X10_node_1, s_X10_node_4, s_X10_node_5 k21, s_X10_node_8, s_X10_node_11, s_X10_node_12, s_X10_node_15, s_X10_node_17, e_X10_node, og_0, og_1, og_2, og_3, og_4, og_5, og_6, og_7, og_8, og_9, og_10, og_11, og_12, op_6, op_8, op_9, op_10, op_11, op_12, dg_0, dg_1, dg_2, dg_3, dp_1, dp_2, dp_3, ng_b, ng_d, mz_m, ms_m, ov_2, nset_d, nset_b, uI_1, uI_2, uR_1, uR_21, uR_22, va_rf, Bool.false_eq_true, ae_Ki, ae_Kb, ae_Kj, ae_Ka, ae_Si, ae_Sb, ae_Sj, ae_Sn, List.getElem?_cons_succ, List.getElem?_cons_zero, ↓reduceIte, if_true, if_false, nI_ofNat, true_or, or_true, false_or, or_false, true_and, and_true, false_and, and_false, or_self, and_self, not_true_eq_false, not_false_eq_true, eq_self, List.length_cons, List.length_nil, Nat.reduceAdd, Nat.reduceLT, Nat.reduceSub, List.set_cons_succ, List.set_cons_zero, Option.toList, List.nil_append, List.cons_append, cI_ltT, cI_ltF, cI_leT, cI_leF, cI_eqT, cI_eqF, cI_cl, cN_leT, cN_leF, cN_ltT, cN_ltF, cN_eqT, cN_eqF, cI_add, cI_sub, cI_m1a, cI_m1b, cI_m1c, cI_m1d, cI_m1e, cI_m1f, o0, g]
theorem m_X10_node_nf {f : Nat} {k t : Int32} (h : CIz G x b ns A F tp rl v B1 B2 j) (hf : f < 2147483648) (hF : F f = false) : ae_wm (d + 5) mX10_node [.ref x, .int (nI f), .int k, .int t] G Q = Q (some (.int (-2))) G := by
  obtain ⟨P, c, p, y, fw, ar, fn, ro, sp, lf, tf, T, nn, cc, fe, hc, -⟩ := h
  obtain ⟨k1, ⟨k2, k2a, k2f⟩, k3, k4, k5, k6, k7⟩ := hc
  have o0 : ∀ K, ae_gw G x 10 0 K = K (.ref (x + 1)) := fun K => by unfold ae_gw; rw [k1]; rfl
  have g := fun Q => m_X7_isFunction (d := d + 4) (Q := Q) k2 k2a.1 hf k2f
  rw [if_neg (by rw [hF]; exact Bool.false_ne_true)] at g
  have k21 := k2.1
  simp (disch := first | exact ae_isR_ref _ | exact ae_isR_null | exact ae_isR_rf _ | exact ae_cat_ref _ | exact ae_cat_int _ | exact ae_cat_null | exact ae_cat_rf _ | exact ae_nz0 | exact ae_nz1 | exact ae_fz0 | exact ae_fz1 | exact cI_na (by omega) | exact cI_ix (by omega) | exact cI_nn (by omega) | exact cI_nz (by omega) | exact cI_cp (by omega) | assumption | omega) only [s_X10_node_0, s_X10_node_1, s_X10_node_4, s_X10_node_5 k21, s_X10_node_8, s_X10_node_11, s_X10_node_12, s_X10_node_15, s_X10_node_17, e_X10_node, og_0, og_1, og_2, og_3, og_4, og_5, og_6, og_7, og_8, og_9, og_10, og_11, og_12, op_6, op_8, op_9, op_10, op_11, op_12, dg_0, dg_1, dg_2, dg_3, dp_1, dp_2, dp_3, ng_b, ng_d, mz_m, ms_m, ov_2, nset_d, nset_b, uI_1, uI_2, uR_1, uR_21, uR_22, va_rf, Bool.false_eq_true, ae_Ki, ae_Kb, ae_Kj, ae_Ka, ae_Si, ae_Sb, ae_Sj, ae_Sn, List.getElem?_cons_succ, List.getElem?_cons_zero, ↓reduceIte, if_true, if_false, nI_ofNat, true_or, or_true, false_or, or_false, true_and, and_true, false_and, and_false, or_self, and_self, not_true_eq_false, not_false_eq_true, eq_self, List.length_cons, List.length_nil, Nat.reduceAdd, Nat.reduceLT, Nat.reduceSub, List.set_cons_succ, List.set_cons_zero, Option.toList, List.nil_append, List.cons_append, cI_ltT, cI_ltF, cI_leT, cI_leF, cI_eqT, cI_eqF, cI_cl, cN_leT, cN_leF, cN_ltT, cN_ltF, cN_eqT, cN_eqF, cI_add, cI_sub, cI_m1a, cI_m1b, cI_m1c, cI_m1d, cI_m1e, cI_m1f, o0, g]
theorem m_X10_node_t {f : Nat} {k t : Int32} (h : CIz G x b ns A F tp rl v B1 B2 j) (hf : f < 2147483648) (hF : F f = true) (ht : t < nI 0) : ae_wm (d + 5) mX10_node [.ref x, .int (nI f), .int k, .int t] G Q = Q (some (.int (-2))) G := by
  obtain ⟨P, c, p, y, fw, ar, fn, ro, sp, lf, tf, T, nn, cc, fe, hc, -⟩ := h
  obtain ⟨k1, ⟨k2, k2a, k2f⟩, k3, k4, k5, k6, k7⟩ := hc
  have o0 : ∀ K, ae_gw G x 10 0 K = K (.ref (x + 1)) := fun K => by unfold ae_gw; rw [k1]; rfl
  have g := fun Q => m_X7_isFunction (d := d + 4) (Q := Q) k2 k2a.1 hf k2f
  rw [if_pos hF] at g
  have e2 := ng_le ht
  have k21 := k2.1
  simp (disch := first | exact ae_isR_ref _ | exact ae_isR_null | exact ae_isR_rf _ | exact ae_cat_ref _ | exact ae_cat_int _ | exact ae_cat_null | exact ae_cat_rf _ | exact ae_nz0 | exact ae_nz1 | exact ae_fz0 | exact ae_fz1 | exact cI_na (by omega) | exact cI_ix (by omega) | exact cI_nn (by omega) | exact cI_nz (by omega) | exact cI_cp (by omega) | assumption | omega) only [s_X10_node_0, s_X10_node_1, s_X10_node_4, s_X10_node_5 k21, s_X10_node_8, s_X10_node_11, s_X10_node_12, s_X10_node_15, s_X10_node_17, e_X10_node, og_0, og_1, og_2, og_3, og_4, og_5, og_6, og_7, og_8, og_9, og_10, og_11, og_12, op_6, op_8, op_9, op_10, op_11, op_12, dg_0, dg_1, dg_2, dg_3, dp_1, dp_2, dp_3, ng_b, ng_d, mz_m, ms_m, ov_2, nset_d, nset_b, uI_1, uI_2, uR_1, uR_21, uR_22, va_rf, Bool.false_eq_true, ae_Ki, ae_Kb, ae_Kj, ae_Ka, ae_Si, ae_Sb, ae_Sj, ae_Sn, List.getElem?_cons_succ, List.getElem?_cons_zero, ↓reduceIte, if_true, if_false, nI_ofNat, true_or, or_true, false_or, or_false, true_and, and_true, false_and, and_false, or_self, and_self, not_true_eq_false, not_false_eq_true, eq_self, List.length_cons, List.length_nil, Nat.reduceAdd, Nat.reduceLT, Nat.reduceSub, List.set_cons_succ, List.set_cons_zero, Option.toList, List.nil_append, List.cons_append, cI_ltT, cI_ltF, cI_leT, cI_leF, cI_eqT, cI_eqF, cI_cl, cN_leT, cN_leF, cN_ltT, cN_ltF, cN_eqT, cN_eqF, cI_add, cI_sub, cI_m1a, cI_m1b, cI_m1c, cI_m1d, cI_m1e, cI_m1f, o0, g, e2]
theorem tro_tre {D : Nat → Prop} {t e n cap : Nat} {f : Nat → Option Nat} {sz : Nat} (h : tro D G t e n cap f sz) : tre (fun _ => True) G t e n cap f sz := by
  obtain ⟨h1, h2, h3, h4, h5⟩ := h
  refine ⟨trivial, trivial, trivial, h1, h2, h3, fun i hi => ?_⟩
  obtain ⟨a, fs, a1, a2, -⟩ := h4 i hi
  exact ⟨a, fs, a1, trivial, a2⟩
/-- up to where the node is looked up -/
theorem m_X10_node_a {f : Nat} {k : Int32} {t : Nat} (h : CIz G x b ns A F tp rl v B1 B2 j) (hF : F f = true) (ht : t < 2147483648) : ∃ l4 : Option Value, (∀ Q, (ltr A rl ns f = none ∨ k < nI 0 ∨ (∃ L n, ltr A rl ns f = some L ∧ k = nI n ∧ n < 2147483648 ∧ L.length ≤ n)) → ae_wm (d + 5) mX10_node [.ref x, .int (nI f), .int k, .int (nI t)] G Q = Q (some (.int (-1))) G) ∧ ∀ L n, ltr A rl ns f = some L → k = nI n → n < L.length → ∃ ad a, ad n = some a ∧ ndF G ad L 0 n ∧ ∀ Q, ae_wm (d + 5) mX10_node [.ref x, .int (nI f), .int k, .int (nI t)] G Q = ae_wp (d + 5) mX10_node 53 [some (.ref x), some (.int (nI f)), some (.int k), some (.int (nI t)), l4, some (.ref a)] [.int (nI t)] G Q := by
  obtain ⟨P, c, p, y, fw, ar, fn, ro, sp, lf, tf, T, nn, cc, fe, hc, -⟩ := h
  obtain ⟨k1, ⟨k2, k2a, k2f⟩, k3, k4, k5, k6, k7⟩ := hc
  have hfn : f < ns := by
    by_cases w : f < ns
    · exact w
    · rw [k2f.2 _ (by omega)] at hF; cases hF
  have hns := k2a.1
  have o0 : ∀ K, ae_gw G x 10 0 K = K (.ref (x + 1)) := fun K => by unfold ae_gw; rw [k1]; rfl
  have o2 : ∀ K, ae_gw G x 10 2 K = K (.ref (x + 6)) := fun K => by unfold ae_gw; rw [k1]; rfl
  have g := fun Q => m_X7_isFunction (d := d + 4) (Q := Q) (v := f) k2 k2a.1 (by omega) k2f
  rw [if_pos hF] at g
  have k21 := k2.1
  obtain ⟨⟨c6, c7, c8, -⟩, -, -, -, hfs, -⟩ := k5
  have gt := fun Q => m_X5_treeOf (d := d + 4) (Q := Q) (f := f) c6 c8 (by omega)
  cases htf : tf f with
  | none =>
    rw [htf] at gt
    have e0 : va_rf none = .null := rfl
    rw [e0] at gt
    have hl : ltr A rl ns f = none := by unfold ltr; rw [if_pos ((hfs f (by omega)).1 htf)]
    refine ⟨none, fun Q _ => ?_, fun L n w => by rw [hl] at w; cases w⟩
    simp (disch := first | exact ae_isR_ref _ | exact ae_isR_null | exact ae_isR_rf _ | exact ae_cat_ref _ | exact ae_cat_int _ | exact ae_cat_null | exact ae_cat_rf _ | exact ae_nz0 | exact ae_nz1 | exact ae_fz0 | exact ae_fz1 | exact cI_na (by omega) | exact cI_ix (by omega) | exact cI_nn (by omega) | exact cI_nz (by omega) | exact cI_cp (by omega) | assumption | omega) only [s_X10_node_0, s_X10_node_1, s_X10_node_4, s_X10_node_5 k21, s_X10_node_8, s_X10_node_11, s_X10_node_12, s_X10_node_15, s_X10_node_17, s_X10_node_18, s_X10_node_19, s_X10_node_22, s_X10_node_23 c6, s_X10_node_26, s_X10_node_28, s_X10_node_30, s_X10_node_30_N, s_X10_node_33, s_X10_node_34, s_X10_node_37, s_X10_node_39, s_X10_node_40, s_X10_node_43, s_X10_node_45, s_X10_node_47, s_X10_node_47_N, s_X10_node_50, s_X10_node_51, e_X10_node, og_0, og_1, og_2, og_3, og_4, og_5, og_6, og_7, og_8, og_9, og_10, og_11, og_12, op_6, op_8, op_9, op_10, op_11, op_12, dg_0, dg_1, dg_2, dg_3, dp_1, dp_2, dp_3, ng_b, ng_d, mz_m, ms_m, ov_2, nset_d, nset_b, uI_1, uI_2, uR_1, uR_21, uR_22, va_rf, Bool.false_eq_true, ae_Ki, ae_Kb, ae_Kj, ae_Ka, ae_Si, ae_Sb, ae_Sj, ae_Sn, List.getElem?_cons_succ, List.getElem?_cons_zero, ↓reduceIte, if_true, if_false, nI_ofNat, true_or, or_true, false_or, or_false, true_and, and_true, false_and, and_false, or_self, and_self, not_true_eq_false, not_false_eq_true, eq_self, List.length_cons, List.length_nil, Nat.reduceAdd, Nat.reduceLT, Nat.reduceSub, List.set_cons_succ, List.set_cons_zero, Option.toList, List.nil_append, List.cons_append, cI_ltT, cI_ltF, cI_leT, cI_leF, cI_eqT, cI_eqF, cI_cl, cN_leT, cN_leF, cN_ltT, cN_ltF, cN_eqT, cN_eqF, cI_add, cI_sub, cI_m1a, cI_m1b, cI_m1c, cI_m1d, cI_m1e, cI_m1f, o0, o2, g, gt]
  | some tt =>
    rw [htf] at gt
    have e0 : va_rf (some tt) = .ref tt := rfl
    rw [e0] at gt
    obtain ⟨e, ad, sz, t1, t2, t3⟩ := (hfs f (by omega)).2 tt htf
    have t11 := t1.1
    have htre := tro_tre t1
    have hsz : sz < 2147483648 := by
      have := t1.2.2.1
      have := t1.2.2.2.2.2.2.1.2
      omega
    have hL : ∀ L, ltr A rl ns f = some L → sz = L.length ∧ ∀ k, k < L.length → ndF G ad L 0 k := fun L w => by
      obtain ⟨L2, a, m1, m2, m3, m4, m5, m6⟩ := t3 (ltr_rof w)
      rw [w] at m1
      cases m1
      exact ⟨m2, m6⟩
    refine ⟨some (.ref tt), fun Q hh => ?_, fun L n w1 w2 w3 => ?_⟩
    · have gno : ∀ Q, ae_wm (d + 4) mX8_at [.ref tt, .int k] G Q = Q (some .null) G := fun Q => by
        rcases i32_cases k with hk | ⟨n, hn, rfl⟩
        · exact m_X8_at_ng (d := d + 1) hk
        · refine m_X8_at_no (d := d + 1) htre ⟨?_, hn⟩
          rcases hh with w | w | ⟨L, m, w1, w2, w3, w4⟩
          · have hz : rof rl f = 0 := by
              by_cases z : rof rl f = 0
              · exact z
              · obtain ⟨L2, a, m1, -⟩ := t3 z
                rw [w] at m1; cases m1
            have := t2 hz
            omega
          · exact absurd w (cI_nn hn)
          · have := nI_ij hn w3 w2
            have := (hL L w1).1
            omega
      simp (disch := first | exact ae_isR_ref _ | exact ae_isR_null | exact ae_isR_rf _ | exact ae_cat_ref _ | exact ae_cat_int _ | exact ae_cat_null | exact ae_cat_rf _ | exact ae_nz0 | exact ae_nz1 | exact ae_fz0 | exact ae_fz1 | exact cI_na (by omega) | exact cI_ix (by omega) | exact cI_nn (by omega) | exact cI_nz (by omega) | exact cI_cp (by omega) | assumption | omega) only [s_X10_node_0, s_X10_node_1, s_X10_node_4, s_X10_node_5 k21, s_X10_node_8, s_X10_node_11, s_X10_node_12, s_X10_node_15, s_X10_node_17, s_X10_node_18, s_X10_node_19, s_X10_node_22, s_X10_node_23 c6, s_X10_node_26, s_X10_node_28, s_X10_node_30, s_X10_node_30_N, s_X10_node_33, s_X10_node_34, s_X10_node_37, s_X10_node_39, s_X10_node_40 t11, s_X10_node_43, s_X10_node_45, s_X10_node_47, s_X10_node_47_N, s_X10_node_50, s_X10_node_51, e_X10_node, og_0, og_1, og_2, og_3, og_4, og_5, og_6, og_7, og_8, og_9, og_10, og_11, og_12, op_6, op_8, op_9, op_10, op_11, op_12, dg_0, dg_1, dg_2, dg_3, dp_1, dp_2, dp_3, ng_b, ng_d, mz_m, ms_m, ov_2, nset_d, nset_b, uI_1, uI_2, uR_1, uR_21, uR_22, va_rf, Bool.false_eq_true, ae_Ki, ae_Kb, ae_Kj, ae_Ka, ae_Si, ae_Sb, ae_Sj, ae_Sn, List.getElem?_cons_succ, List.getElem?_cons_zero, ↓reduceIte, if_true, if_false, nI_ofNat, true_or, or_true, false_or, or_false, true_and, and_true, false_and, and_false, or_self, and_self, not_true_eq_false, not_false_eq_true, eq_self, List.length_cons, List.length_nil, Nat.reduceAdd, Nat.reduceLT, Nat.reduceSub, List.set_cons_succ, List.set_cons_zero, Option.toList, List.nil_append, List.cons_append, cI_ltT, cI_ltF, cI_leT, cI_leF, cI_eqT, cI_eqF, cI_cl, cN_leT, cN_leF, cN_ltT, cN_ltF, cN_eqT, cN_eqF, cI_add, cI_sub, cI_m1a, cI_m1b, cI_m1c, cI_m1d, cI_m1e, cI_m1f, o0, o2, g, gt, gno]
    · subst w2
      have hnd := (hL L w1).2 n w3
      have hnd0 := hnd
      obtain ⟨a, fc, as, bs, h1, h2, -⟩ := hnd
      rw [Nat.zero_add] at h1
      have gat := fun Q => m_X8_at (d := d + 1) (Q := Q) htre (by have := (hL L w1).1; omega) h1
      refine ⟨ad, a, h1, hnd0, fun Q => ?_⟩
      simp (disch := first | exact ae_isR_ref _ | exact ae_isR_null | exact ae_isR_rf _ | exact ae_cat_ref _ | exact ae_cat_int _ | exact ae_cat_null | exact ae_cat_rf _ | exact ae_nz0 | exact ae_nz1 | exact ae_fz0 | exact ae_fz1 | exact cI_na (by omega) | exact cI_ix (by omega) | exact cI_nn (by omega) | exact cI_nz (by omega) | exact cI_cp (by omega) | assumption | omega) only [s_X10_node_0, s_X10_node_1, s_X10_node_4, s_X10_node_5 k21, s_X10_node_8, s_X10_node_11, s_X10_node_12, s_X10_node_15, s_X10_node_17, s_X10_node_18, s_X10_node_19, s_X10_node_22, s_X10_node_23 c6, s_X10_node_26, s_X10_node_28, s_X10_node_30, s_X10_node_30_N, s_X10_node_33, s_X10_node_34, s_X10_node_37, s_X10_node_39, s_X10_node_40 t11, s_X10_node_43, s_X10_node_45, s_X10_node_47, s_X10_node_47_N, e_X10_node, s_X10_node_52, og_0, og_1, og_2, og_3, og_4, og_5, og_6, og_7, og_8, og_9, og_10, og_11, og_12, op_6, op_8, op_9, op_10, op_11, op_12, dg_0, dg_1, dg_2, dg_3, dp_1, dp_2, dp_3, ng_b, ng_d, mz_m, ms_m, ov_2, nset_d, nset_b, uI_1, uI_2, uR_1, uR_21, uR_22, va_rf, Bool.false_eq_true, ae_Ki, ae_Kb, ae_Kj, ae_Ka, ae_Si, ae_Sb, ae_Sj, ae_Sn, List.getElem?_cons_succ, List.getElem?_cons_zero, ↓reduceIte, if_true, if_false, nI_ofNat, true_or, or_true, false_or, or_false, true_and, and_true, false_and, and_false, or_self, and_self, not_true_eq_false, not_false_eq_true, eq_self, List.length_cons, List.length_nil, Nat.reduceAdd, Nat.reduceLT, Nat.reduceSub, List.set_cons_succ, List.set_cons_zero, Option.toList, List.nil_append, List.cons_append, cI_ltT, cI_ltF, cI_leT, cI_leF, cI_eqT, cI_eqF, cI_cl, cN_leT, cN_leF, cN_ltT, cN_ltF, cN_eqT, cN_eqF, cI_add, cI_sub, cI_m1a, cI_m1b, cI_m1c, cI_m1d, cI_m1e, cI_m1f, o0, o2, g, gt, gat]
theorem m_X10_node_k {f : Nat} {k : Int32} {t : Nat} (h : CIz G x b ns A F tp rl v B1 B2 j) (hF : F f = true) (ht : t < 2147483648) (hk : k < nI 0) : ae_wm (d + 5) mX10_node [.ref x, .int (nI f), .int k, .int (nI t)] G Q = Q (some (.int (-1))) G := by
  obtain ⟨l4, h1, -⟩ := m_X10_node_a (d := d) (k := k) h hF ht
  exact h1 Q (Or.inr (Or.inl hk))
theorem m_X10_node {f k t : Nat} (h : CIz G x b ns A F tp rl v B1 B2 j) (hF : F f = true) (ht : t < 2147483648) (hk : k < 2147483648) : ae_wm (d + 5) mX10_node [.ref x, .int (nI f), .int (nI k), .int (nI t)] G Q = Q (some (.int (ndv (ltr A rl ns f) k t))) G := by
  obtain ⟨l4, h1, h2⟩ := m_X10_node_a (d := d) (k := nI k) h hF ht
  cases hL : ltr A rl ns f with
  | none => exact h1 Q (Or.inl hL)
  | some L =>
    unfold ndv
    dsimp only
    by_cases c : L.length ≤ k
    · rw [if_pos c]
      exact h1 Q (Or.inr (Or.inr ⟨L, k, hL, rfl, hk, c⟩))
    · rw [if_neg c]
      obtain ⟨ad, a, a1, a2, a3⟩ := h2 L k hL rfl (by omega)
      rw [a3 Q]
      obtain ⟨a', fc, as, bs, b1, b2, b3, b4, b5, b6, b7, b8, b9, b10, b11⟩ := a2
      rw [Nat.zero_add, a1] at b1
      cases b1
      obtain ⟨fs, hcl⟩ := nfl_cls b4
      have o4 : ∀ K, ae_gw G a 0 4 K = K (.int (nI (nat L k).2.2.1)) := fun K => gw_nfl b4
      by_cases c0 : t = 0
      · subst c0
        rw [if_pos rfl]
        rcases b3 with ⟨z1, z2, z3⟩ | ⟨z1, z2, z3, z4⟩
        · have gl := fun Q => m_X0_isLeaf (d := d + 4) (Q := Q) z2 (by omega)
          rw [if_pos rfl] at gl
          rw [z1]
          simp (disch := first | exact ae_isR_ref _ | exact ae_isR_null | exact ae_isR_rf _ | exact ae_cat_ref _ | exact ae_cat_int _ | exact ae_cat_null | exact ae_cat_rf _ | exact ae_nz0 | exact ae_nz1 | exact ae_fz0 | exact ae_fz1 | exact cI_na (by omega) | exact cI_ix (by omega) | exact cI_nn (by omega) | exact cI_nz (by omega) | exact cI_cp (by omega) | assumption | omega) only [s_X10_node_53_0, s_X10_node_80, s_X10_node_82 hcl, s_X10_node_85, s_X10_node_88, s_X10_node_89, s_X10_node_92, s_X10_node_93, og_0, og_1, og_2, og_3, og_4, og_5, og_6, og_7, og_8, og_9, og_10, og_11, og_12, op_6, op_8, op_9, op_10, op_11, op_12, dg_0, dg_1, dg_2, dg_3, dp_1, dp_2, dp_3, ng_b, ng_d, mz_m, ms_m, ov_2, nset_d, nset_b, uI_1, uI_2, uR_1, uR_21, uR_22, va_rf, Bool.false_eq_true, ae_Ki, ae_Kb, ae_Kj, ae_Ka, ae_Si, ae_Sb, ae_Sj, ae_Sn, List.getElem?_cons_succ, List.getElem?_cons_zero, ↓reduceIte, if_true, if_false, nI_ofNat, true_or, or_true, false_or, or_false, true_and, and_true, false_and, and_false, or_self, and_self, not_true_eq_false, not_false_eq_true, eq_self, List.length_cons, List.length_nil, Nat.reduceAdd, Nat.reduceLT, Nat.reduceSub, List.set_cons_succ, List.set_cons_zero, Option.toList, List.nil_append, List.cons_append, cI_ltT, cI_ltF, cI_leT, cI_leF, cI_eqT, cI_eqF, cI_cl, cN_leT, cN_leF, cN_ltT, cN_ltF, cN_eqT, cN_eqF, cI_add, cI_sub, cI_m1a, cI_m1b, cI_m1c, cI_m1d, cI_m1e, cI_m1f, gl]
        · have gl := fun Q => m_X0_isLeaf (d := d + 4) (Q := Q) z2 z4
          rw [if_neg (by omega)] at gl
          rw [z1]
          simp (disch := first | exact ae_isR_ref _ | exact ae_isR_null | exact ae_isR_rf _ | exact ae_cat_ref _ | exact ae_cat_int _ | exact ae_cat_null | exact ae_cat_rf _ | exact ae_nz0 | exact ae_nz1 | exact ae_fz0 | exact ae_fz1 | exact cI_na (by omega) | exact cI_ix (by omega) | exact cI_nn (by omega) | exact cI_nz (by omega) | exact cI_cp (by omega) | assumption | omega) only [s_X10_node_53_0, s_X10_node_80, s_X10_node_82 hcl, s_X10_node_85, s_X10_node_88, s_X10_node_89, s_X10_node_92, s_X10_node_93, og_0, og_1, og_2, og_3, og_4, og_5, og_6, og_7, og_8, og_9, og_10, og_11, og_12, op_6, op_8, op_9, op_10, op_11, op_12, dg_0, dg_1, dg_2, dg_3, dp_1, dp_2, dp_3, ng_b, ng_d, mz_m, ms_m, ov_2, nset_d, nset_b, uI_1, uI_2, uR_1, uR_21, uR_22, va_rf, Bool.false_eq_true, ae_Ki, ae_Kb, ae_Kj, ae_Ka, ae_Si, ae_Sb, ae_Sj, ae_Sn, List.getElem?_cons_succ, List.getElem?_cons_zero, ↓reduceIte, if_true, if_false, nI_ofNat, true_or, or_true, false_or, or_false, true_and, and_true, false_and, and_false, or_self, and_self, not_true_eq_false, not_false_eq_true, eq_self, List.length_cons, List.length_nil, Nat.reduceAdd, Nat.reduceLT, Nat.reduceSub, List.set_cons_succ, List.set_cons_zero, Option.toList, List.nil_append, List.cons_append, cI_ltT, cI_ltF, cI_leT, cI_leF, cI_eqT, cI_eqF, cI_cl, cN_leT, cN_leF, cN_ltT, cN_ltF, cN_eqT, cN_eqF, cI_add, cI_sub, cI_m1a, cI_m1b, cI_m1c, cI_m1d, cI_m1e, cI_m1f, gl]
      · rw [if_neg c0]
        by_cases c1 : t = 1
        · subst c1
          rw [if_pos rfl]
          rcases b3 with ⟨z1, z2, z3⟩ | ⟨z1, z2, z3, z4⟩
          · have gl := fun Q => m_X0_isLeaf (d := d + 4) (Q := Q) z2 (by omega)
            rw [if_pos rfl] at gl
            have o3 : ∀ K, ae_gw G a 0 3 K = K (.int (nI (nat L k).2.1)) := fun K => gw_nfl z3
            simp (disch := first | exact ae_isR_ref _ | exact ae_isR_null | exact ae_isR_rf _ | exact ae_cat_ref _ | exact ae_cat_int _ | exact ae_cat_null | exact ae_cat_rf _ | exact ae_nz0 | exact ae_nz1 | exact ae_fz0 | exact ae_fz1 | exact cI_na (by omega) | exact cI_ix (by omega) | exact cI_nn (by omega) | exact cI_nz (by omega) | exact cI_cp (by omega) | assumption | omega) only [s_X10_node_53_1, s_X10_node_94, s_X10_node_96 hcl, s_X10_node_99, s_X10_node_102, s_X10_node_104, s_X10_node_107, s_X10_node_110, s_X10_node_112, s_X10_node_115, og_0, og_1, og_2, og_3, og_4, og_5, og_6, og_7, og_8, og_9, og_10, og_11, og_12, op_6, op_8, op_9, op_10, op_11, op_12, dg_0, dg_1, dg_2, dg_3, dp_1, dp_2, dp_3, ng_b, ng_d, mz_m, ms_m, ov_2, nset_d, nset_b, uI_1, uI_2, uR_1, uR_21, uR_22, va_rf, Bool.false_eq_true, ae_Ki, ae_Kb, ae_Kj, ae_Ka, ae_Si, ae_Sb, ae_Sj, ae_Sn, List.getElem?_cons_succ, List.getElem?_cons_zero, ↓reduceIte, if_true, if_false, nI_ofNat, true_or, or_true, false_or, or_false, true_and, and_true, false_and, and_false, or_self, and_self, not_true_eq_false, not_false_eq_true, eq_self, List.length_cons, List.length_nil, Nat.reduceAdd, Nat.reduceLT, Nat.reduceSub, List.set_cons_succ, List.set_cons_zero, Option.toList, List.nil_append, List.cons_append, cI_ltT, cI_ltF, cI_leT, cI_leF, cI_eqT, cI_eqF, cI_cl, cN_leT, cN_leF, cN_ltT, cN_ltF, cN_eqT, cN_eqF, cI_add, cI_sub, cI_m1a, cI_m1b, cI_m1c, cI_m1d, cI_m1e, cI_m1f, gl, o3]
          · have gl := fun Q => m_X0_isLeaf (d := d + 4) (Q := Q) z2 z4
            rw [if_neg (by omega)] at gl
            have o3 : ∀ K, ae_gw G a 0 2 K = K (.int (nI (nat L k).2.1)) := fun K => gw_nfl z2
            simp (disch := first | exact ae_isR_ref _ | exact ae_isR_null | exact ae_isR_rf _ | exact ae_cat_ref _ | exact ae_cat_int _ | exact ae_cat_null | exact ae_cat_rf _ | exact ae_nz0 | exact ae_nz1 | exact ae_fz0 | exact ae_fz1 | exact cI_na (by omega) | exact cI_ix (by omega) | exact cI_nn (by omega) | exact cI_nz (by omega) | exact cI_cp (by omega) | assumption | omega) only [s_X10_node_53_1, s_X10_node_94, s_X10_node_96 hcl, s_X10_node_99, s_X10_node_102, s_X10_node_104, s_X10_node_107, s_X10_node_110, s_X10_node_112, s_X10_node_115, og_0, og_1, og_2, og_3, og_4, og_5, og_6, og_7, og_8, og_9, og_10, og_11, og_12, op_6, op_8, op_9, op_10, op_11, op_12, dg_0, dg_1, dg_2, dg_3, dp_1, dp_2, dp_3, ng_b, ng_d, mz_m, ms_m, ov_2, nset_d, nset_b, uI_1, uI_2, uR_1, uR_21, uR_22, va_rf, Bool.false_eq_true, ae_Ki, ae_Kb, ae_Kj, ae_Ka, ae_Si, ae_Sb, ae_Sj, ae_Sn, List.getElem?_cons_succ, List.getElem?_cons_zero, ↓reduceIte, if_true, if_false, nI_ofNat, true_or, or_true, false_or, or_false, true_and, and_true, false_and, and_false, or_self, and_self, not_true_eq_false, not_false_eq_true, eq_self, List.length_cons, List.length_nil, Nat.reduceAdd, Nat.reduceLT, Nat.reduceSub, List.set_cons_succ, List.set_cons_zero, Option.toList, List.nil_append, List.cons_append, cI_ltT, cI_ltF, cI_leT, cI_leF, cI_eqT, cI_eqF, cI_cl, cN_leT, cN_leF, cN_ltT, cN_ltF, cN_eqT, cN_eqF, cI_add, cI_sub, cI_m1a, cI_m1b, cI_m1c, cI_m1d, cI_m1e, cI_m1f, gl, o3]
        · rw [if_neg c1]
          by_cases c2 : t = 2
          · subst c2
            rw [if_pos rfl]
            simp (disch := first | exact ae_isR_ref _ | exact ae_isR_null | exact ae_isR_rf _ | exact ae_cat_ref _ | exact ae_cat_int _ | exact ae_cat_null | exact ae_cat_rf _ | exact ae_nz0 | exact ae_nz1 | exact ae_fz0 | exact ae_fz1 | exact cI_na (by omega) | exact cI_ix (by omega) | exact cI_nn (by omega) | exact cI_nz (by omega) | exact cI_cp (by omega) | assumption | omega) only [s_X10_node_53_2, s_X10_node_116, s_X10_node_118, s_X10_node_121, og_0, og_1, og_2, og_3, og_4, og_5, og_6, og_7, og_8, og_9, og_10, og_11, og_12, op_6, op_8, op_9, op_10, op_11, op_12, dg_0, dg_1, dg_2, dg_3, dp_1, dp_2, dp_3, ng_b, ng_d, mz_m, ms_m, ov_2, nset_d, nset_b, uI_1, uI_2, uR_1, uR_21, uR_22, va_rf, Bool.false_eq_true, ae_Ki, ae_Kb, ae_Kj, ae_Ka, ae_Si, ae_Sb, ae_Sj, ae_Sn, List.getElem?_cons_succ, List.getElem?_cons_zero, ↓reduceIte, if_true, if_false, nI_ofNat, true_or, or_true, false_or, or_false, true_and, and_true, false_and, and_false, or_self, and_self, not_true_eq_false, not_false_eq_true, eq_self, List.length_cons, List.length_nil, Nat.reduceAdd, Nat.reduceLT, Nat.reduceSub, List.set_cons_succ, List.set_cons_zero, Option.toList, List.nil_append, List.cons_append, cI_ltT, cI_ltF, cI_leT, cI_leF, cI_eqT, cI_eqF, cI_cl, cN_leT, cN_leF, cN_ltT, cN_ltF, cN_eqT, cN_eqF, cI_add, cI_sub, cI_m1a, cI_m1b, cI_m1c, cI_m1d, cI_m1e, cI_m1f, o4]
          · rw [if_neg c2, ndF_fd (by omega) ⟨by omega, ht⟩ b10 b11]
            have hx : (nI t).toInt < 0 ∨ 2 < (nI t).toInt := by rw [toInt_nI ht]; omega
            have gn := fun Q => m_X0_numberOfChild (d := d + 4) (Q := Q) (i := t - 3) b5 b4 b6 b7 b8 b9 (fun t b hb => by
              obtain ⟨_, _, a2, q1, _, q2⟩ := b10 t b hb
              exact ⟨a2, q1, q2⟩) (by omega)
            simp (disch := first | exact ae_isR_ref _ | exact ae_isR_null | exact ae_isR_rf _ | exact ae_cat_ref _ | exact ae_cat_int _ | exact ae_cat_null | exact ae_cat_rf _ | exact ae_nz0 | exact ae_nz1 | exact ae_fz0 | exact ae_fz1 | exact cI_na (by omega) | exact cI_ix (by omega) | exact cI_nn (by omega) | exact cI_nz (by omega) | exact cI_cp (by omega) | assumption | omega) only [s_X10_node_53_D, s_X10_node_122, s_X10_node_124, s_X10_node_125, s_X10_node_126, s_X10_node_127 hcl, s_X10_node_130, og_0, og_1, og_2, og_3, og_4, og_5, og_6, og_7, og_8, og_9, og_10, og_11, og_12, op_6, op_8, op_9, op_10, op_11, op_12, dg_0, dg_1, dg_2, dg_3, dp_1, dp_2, dp_3, ng_b, ng_d, mz_m, ms_m, ov_2, nset_d, nset_b, uI_1, uI_2, uR_1, uR_21, uR_22, va_rf, Bool.false_eq_true, ae_Ki, ae_Kb, ae_Kj, ae_Ka, ae_Si, ae_Sb, ae_Sj, ae_Sn, List.getElem?_cons_succ, List.getElem?_cons_zero, ↓reduceIte, if_true, if_false, nI_ofNat, true_or, or_true, false_or, or_false, true_and, and_true, false_and, and_false, or_self, and_self, not_true_eq_false, not_false_eq_true, eq_self, List.length_cons, List.length_nil, Nat.reduceAdd, Nat.reduceLT, Nat.reduceSub, List.set_cons_succ, List.set_cons_zero, Option.toList, List.nil_append, List.cons_append, cI_ltT, cI_ltF, cI_leT, cI_leF, cI_eqT, cI_eqF, cI_cl, cN_leT, cN_leF, cN_ltT, cN_ltF, cN_eqT, cN_eqF, cI_add, cI_sub, cI_m1a, cI_m1b, cI_m1c, cI_m1d, cI_m1e, cI_m1f, gn]
end NOD
