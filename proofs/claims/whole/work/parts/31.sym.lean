/-! rows as lists of numbers; where a term ends -/
def rowl (l : List Nat) (f : Nat → Int32) : Prop := ∀ i, i < l.length → f i = nI (l.getD i 0)
def sml (l : List Nat) : Prop := ∀ i, i < l.length → l.getD i 0 < 256
/-- from i on, with ms terms missing -/
def tl (A : Nat → Nat) (l : List Nat) : Nat → Nat → Nat → Nat
  | 0, _, i => i
  | k + 1, ms, i => if ms = 0 then i else if i < l.length then tl A l k (ms + A (l.getD i 0) - 1) (i + 1) else i
def te (A : Nat → Nat) (l : List Nat) (i : Nat) : Nat := tl A l (l.length - i) 1 i
theorem tl_done (A : Nat → Nat) (l : List Nat) (k i : Nat) : tl A l k 0 i = i := by cases k <;> simp [tl]
theorem tl_end (A : Nat → Nat) (l : List Nat) (k ms i : Nat) (h : l.length ≤ i) : tl A l k ms i = i := by
  cases k with
  | zero => rfl
  | succ k => simp [tl, show ¬ i < l.length by omega]
theorem tl_ge (A : Nat → Nat) (l : List Nat) : ∀ (k ms i : Nat), i ≤ tl A l k ms i := by
  intro k
  induction k with
  | zero => intro ms i; exact Nat.le_refl _
  | succ k ih =>
    intro ms i
    unfold tl
    split
    · exact Nat.le_refl _
    · split
      · exact Nat.le_trans (Nat.le_succ i) (ih _ _)
      · exact Nat.le_refl _
theorem tl_le (A : Nat → Nat) (l : List Nat) : ∀ (k ms i : Nat), i ≤ l.length → tl A l k ms i ≤ l.length := by
  intro k
  induction k with
  | zero => intro ms i h; exact h
  | succ k ih =>
    intro ms i h
    unfold tl
    split
    · exact h
    · split
      · exact ih _ _ (by omega)
      · exact h
theorem te_le (A : Nat → Nat) (l : List Nat) {i : Nat} (h : i ≤ l.length) : te A l i ≤ l.length := tl_le A l _ _ _ h
theorem te_ge (A : Nat → Nat) (l : List Nat) (i : Nat) : i ≤ te A l i := tl_ge A l _ _ _
theorem nI_miss (m a : Nat) : nI (m + 1) + (nI a - 1) = nI (m + a) := by
  rw [nI_succ, ← nI_add]
  generalize nI m = x
  generalize nI a = y
  rw [Int32.add_assoc, Int32.sub_eq_add_neg, Int32.add_comm y (-1), ← Int32.add_assoc 1, Int32.add_right_neg, Int32.zero_add]
/-! NarrowSolver$Symbols at q: how many arguments a number has (none if it is no symbol), and whether it is a function -/
def sym (h : ah_H) (q ns : Nat) (ar fn : Nat → Int32) : Prop := h.1 q = some (.inr (7, [.ref (q + 1), .ref (q + 2), .int (nI ns)])) ∧ h.1 (q + 1) = some (.inl (0, 24, .inl ar)) ∧ h.1 (q + 2) = some (.inl (1, 24, .inl fn))
/-- the numbers of arguments, as the table has them -/
def arl (A : Nat → Nat) (ns : Nat) (ar : Nat → Int32) : Prop := ns ≤ 24 ∧ (∀ k, k < ns → ar k = nI (A k) ∧ A k ≤ 3) ∧ ∀ k, ns ≤ k → A k = 0
theorem arl_le {A : Nat → Nat} {ns : Nat} {ar : Nat → Int32} (h : arl A ns ar) (k : Nat) : A k ≤ 3 := by
  by_cases hk : k < ns
  · exact (h.2.1 k hk).2
  · rw [h.2.2 k (by omega)]; omega
section SYM
variable {d : Nat} {Q : Option Value → ah_H → Prop} {h : ah_H} {q ns p n : Nat} {ar fn f : Nat → Int32} {A : Nat → Nat} {l : List Nat}
theorem m_X7_argumentsOf {v : Nat} (hq : sym h q ns ar fn) (hA : arl A ns ar) (hv : v < 2 ^ 31) : ae_wm d mX7_argumentsOf [.ref q, .int (nI v)] h Q = Q (some (.int (nI (A v)))) h := by
  have h1 : ¬ nI v < 0 := nI_pos hv
  by_cases h2 : v < ns
  · have h3 : ¬ nI ns ≤ nI v := nI_ge h2 (by have := hA.1; omega)
    have h4 : (nI v).toNatClampNeg = v := nI_clamp hv
    have h5 : ¬ 24 ≤ v := by have := hA.1; omega
    simp (disch := first | exact ae_isR_ref _ | exact ae_isR_null | exact ae_isR_rf _ | exact ae_cat_ref _ | exact ae_cat_int _ | exact ae_cat_null | exact ae_cat_rf _ | exact ae_nz0 | exact ae_nz1 | exact ae_fz0 | exact ae_fz1 | assumption | omega) only [s_X7_argumentsOf_0, s_X7_argumentsOf_1, s_X7_argumentsOf_4, s_X7_argumentsOf_5, s_X7_argumentsOf_6, s_X7_argumentsOf_9, s_X7_argumentsOf_12, s_X7_argumentsOf_13, s_X7_argumentsOf_16, s_X7_argumentsOf_17, s_X7_argumentsOf_18, s_X7_argumentsOf_21, s_X7_argumentsOf_22, e_X7_argumentsOf, ae_gw, ae_pw, ae_zw, ae_Ki, ae_Kb, ae_Kj, ae_Ka, ae_Si, ae_Sb, ae_Sj, ae_Sn, List.getElem?_cons_succ, List.getElem?_cons_zero, if_true, if_false, nI_ofNat, true_or, or_true, false_or, or_false, true_and, and_true, or_self, and_self, not_true_eq_false, not_false_eq_true, List.length_cons, List.length_nil, Nat.reduceAdd, Nat.reduceLT, List.set_cons_succ, List.set_cons_zero, Option.toList, List.nil_append, List.cons_append, hq.1, hq.2.1, h1, h3, h4, h5, (hA.2.1 v h2).1]
  · have h3 : nI ns ≤ nI v := nI_le (by omega) hv
    have h4 : A v = 0 := hA.2.2 v (by omega)
    simp (disch := first | exact ae_isR_ref _ | exact ae_isR_null | exact ae_isR_rf _ | exact ae_cat_ref _ | exact ae_cat_int _ | exact ae_cat_null | exact ae_cat_rf _ | exact ae_nz0 | exact ae_nz1 | exact ae_fz0 | exact ae_fz1 | assumption | omega) only [s_X7_argumentsOf_0, s_X7_argumentsOf_1, s_X7_argumentsOf_4, s_X7_argumentsOf_5, s_X7_argumentsOf_6, s_X7_argumentsOf_9, s_X7_argumentsOf_12, s_X7_argumentsOf_13, s_X7_argumentsOf_16, s_X7_argumentsOf_17, s_X7_argumentsOf_18, s_X7_argumentsOf_21, s_X7_argumentsOf_22, e_X7_argumentsOf, ae_gw, ae_pw, ae_zw, ae_Ki, ae_Kb, ae_Kj, ae_Ka, ae_Si, ae_Sb, ae_Sj, ae_Sn, List.getElem?_cons_succ, List.getElem?_cons_zero, if_true, if_false, nI_ofNat, true_or, or_true, false_or, or_false, true_and, and_true, or_self, and_self, not_true_eq_false, not_false_eq_true, List.length_cons, List.length_nil, Nat.reduceAdd, Nat.reduceLT, List.set_cons_succ, List.set_cons_zero, Option.toList, List.nil_append, List.cons_append, hq.1, hq.2.1, h1, h3, h4, nI_0]
theorem m_X7_isFunction {v : Nat} (hq : sym h q ns ar fn) (hns : ns ≤ 24) (hv : v < 2 ^ 31) (hfn : ∀ k, k < ns → fn k = 0 ∨ fn k = 1) : ae_wm d mX7_isFunction [.ref q, .int (nI v)] h Q = Q (some (.int (if v < ns ∧ fn v = 1 then 1 else 0))) h := by
  have h1 : ¬ nI v < 0 := nI_pos hv
  have z : ¬ (0 : Int32) = 1 := by decide
  have z2 : ¬ (1 : Int32) = 0 := by decide
  by_cases h2 : v < ns
  · have h3 : ¬ nI ns ≤ nI v := nI_ge h2 (by omega)
    have h4 : (nI v).toNatClampNeg = v := nI_clamp hv
    have h5 : ¬ 24 ≤ v := by omega
    rcases hfn v h2 with h6 | h6
    · simp (disch := first | exact ae_isR_ref _ | exact ae_isR_null | exact ae_isR_rf _ | exact ae_cat_ref _ | exact ae_cat_int _ | exact ae_cat_null | exact ae_cat_rf _ | exact ae_nz0 | exact ae_nz1 | exact ae_fz0 | exact ae_fz1 | assumption | omega) only [s_X7_isFunction_0, s_X7_isFunction_1, s_X7_isFunction_4, s_X7_isFunction_5, s_X7_isFunction_6, s_X7_isFunction_9, s_X7_isFunction_12, s_X7_isFunction_13, s_X7_isFunction_16, s_X7_isFunction_17, s_X7_isFunction_18, s_X7_isFunction_21, s_X7_isFunction_22, s_X7_isFunction_25, s_X7_isFunction_26, e_X7_isFunction, ae_gw, ae_pw, ae_zw, ae_Ki, ae_Kb, ae_Kj, ae_Ka, ae_Si, ae_Sb, ae_Sj, ae_Sn, List.getElem?_cons_succ, List.getElem?_cons_zero, if_true, if_false, nI_ofNat, true_or, or_true, false_or, or_false, true_and, and_true, or_self, and_self, not_true_eq_false, not_false_eq_true, List.length_cons, List.length_nil, Nat.reduceAdd, Nat.reduceLT, List.set_cons_succ, List.set_cons_zero, Option.toList, List.nil_append, List.cons_append, hq.1, hq.2.1, hq.2.2, h1, h2, h3, h4, h5, h6, z, z2]
    · simp (disch := first | exact ae_isR_ref _ | exact ae_isR_null | exact ae_isR_rf _ | exact ae_cat_ref _ | exact ae_cat_int _ | exact ae_cat_null | exact ae_cat_rf _ | exact ae_nz0 | exact ae_nz1 | exact ae_fz0 | exact ae_fz1 | assumption | omega) only [s_X7_isFunction_0, s_X7_isFunction_1, s_X7_isFunction_4, s_X7_isFunction_5, s_X7_isFunction_6, s_X7_isFunction_9, s_X7_isFunction_12, s_X7_isFunction_13, s_X7_isFunction_16, s_X7_isFunction_17, s_X7_isFunction_18, s_X7_isFunction_21, s_X7_isFunction_22, s_X7_isFunction_25, s_X7_isFunction_26, e_X7_isFunction, ae_gw, ae_pw, ae_zw, ae_Ki, ae_Kb, ae_Kj, ae_Ka, ae_Si, ae_Sb, ae_Sj, ae_Sn, List.getElem?_cons_succ, List.getElem?_cons_zero, if_true, if_false, nI_ofNat, true_or, or_true, false_or, or_false, true_and, and_true, or_self, and_self, not_true_eq_false, not_false_eq_true, List.length_cons, List.length_nil, Nat.reduceAdd, Nat.reduceLT, List.set_cons_succ, List.set_cons_zero, Option.toList, List.nil_append, List.cons_append, hq.1, hq.2.1, hq.2.2, h1, h2, h3, h4, h5, h6, z, z2]
  · have h3 : nI ns ≤ nI v := nI_le (by omega) hv
    simp (disch := first | exact ae_isR_ref _ | exact ae_isR_null | exact ae_isR_rf _ | exact ae_cat_ref _ | exact ae_cat_int _ | exact ae_cat_null | exact ae_cat_rf _ | exact ae_nz0 | exact ae_nz1 | exact ae_fz0 | exact ae_fz1 | assumption | omega) only [s_X7_isFunction_0, s_X7_isFunction_1, s_X7_isFunction_4, s_X7_isFunction_5, s_X7_isFunction_6, s_X7_isFunction_9, s_X7_isFunction_12, s_X7_isFunction_13, s_X7_isFunction_16, s_X7_isFunction_17, s_X7_isFunction_18, s_X7_isFunction_21, s_X7_isFunction_22, s_X7_isFunction_25, s_X7_isFunction_26, e_X7_isFunction, ae_gw, ae_pw, ae_zw, ae_Ki, ae_Kb, ae_Kj, ae_Ka, ae_Si, ae_Sb, ae_Sj, ae_Sn, List.getElem?_cons_succ, List.getElem?_cons_zero, if_true, if_false, nI_ofNat, true_or, or_true, false_or, or_false, true_and, and_true, or_self, and_self, not_true_eq_false, not_false_eq_true, List.length_cons, List.length_nil, Nat.reduceAdd, Nat.reduceLT, List.set_cons_succ, List.set_cons_zero, Option.toList, List.nil_append, List.cons_append, hq.1, hq.2.1, h1, h2, h3, false_and]
theorem m_X1_at_l {i : Nat} (hq : nmb h p n f l.length) (hn : n < 2 ^ 31) (hl : rowl l f) (hi : i < l.length) (hln : l.length ≤ n) : ae_wm d mX1_at [.ref p, .int (nI i)] h Q = Q (some (.int (nI (l.getD i 0)))) h := by
  have h1 : ¬ nI i < 0 := nI_pos (by omega)
  have h2 : ¬ nI l.length ≤ nI i := nI_ge hi (by omega)
  have h3 : ¬ nI n ≤ nI i := nI_ge (by omega) hn
  have h4 : (nI i).toNatClampNeg = i := nI_clamp (by omega)
  rw [m_X1_at hq hn]
  simp only [h1, h2, h3, h4, or_self, if_false, hl i hi]
/-- the loop of endOfTerm -/
theorem m_X7_eot_loop (hq : sym h q ns ar fn) (hA : arl A ns ar) (hp : nmb h p n f l.length) (hn : n < 2 ^ 31) (hln : l.length ≤ n) (hl : rowl l f) (hs : sml l) {l2 : Option Value} : ∀ (k ms i : Nat), l.length ≤ i + k → i ≤ l.length → ms + 3 * k < 2 ^ 31 → ae_wp (d + 1) mX7_endOfTerm 5 [some (.ref q), some (.ref p), l2, some (.int (nI ms)), some (.int (nI i))] [] h Q = Q (some (.int (nI (tl A l k ms i)))) h := by
  intro k
  induction k with
  | zero =>
    intro ms i h1 h2 h3
    by_cases h0 : ms = 0
    · subst h0
      have g1 : nI 0 ≤ 0 := by rw [nI_0]; decide
      simp (disch := first | exact ae_isR_ref _ | exact ae_isR_null | exact ae_isR_rf _ | exact ae_cat_ref _ | exact ae_cat_int _ | exact ae_cat_null | exact ae_cat_rf _ | exact ae_nz0 | exact ae_nz1 | exact ae_fz0 | exact ae_fz1 | assumption | omega) only [s_X7_endOfTerm_5, s_X7_endOfTerm_6, s_X7_endOfTerm_9, s_X7_endOfTerm_11, s_X7_endOfTerm_12, s_X7_endOfTerm_15, s_X7_endOfTerm_18, s_X7_endOfTerm_19, s_X7_endOfTerm_20, s_X7_endOfTerm_21, s_X7_endOfTerm_39, s_X7_endOfTerm_41, ae_gw, ae_pw, ae_zw, ae_Ki, ae_Kb, ae_Kj, ae_Ka, ae_Si, ae_Sb, ae_Sj, ae_Sn, List.getElem?_cons_succ, List.getElem?_cons_zero, if_true, if_false, nI_ofNat, true_or, or_true, false_or, or_false, true_and, and_true, or_self, and_self, not_true_eq_false, not_false_eq_true, List.length_cons, List.length_nil, Nat.reduceAdd, Nat.reduceLT, List.set_cons_succ, List.set_cons_zero, Option.toList, List.nil_append, List.cons_append, g1, tl]
    · have g1 : ¬ nI ms ≤ 0 := nI_nle (by omega) (by omega)
      have g2 : nI l.length ≤ nI i := nI_le (by omega) (by omega)
      simp (disch := first | exact ae_isR_ref _ | exact ae_isR_null | exact ae_isR_rf _ | exact ae_cat_ref _ | exact ae_cat_int _ | exact ae_cat_null | exact ae_cat_rf _ | exact ae_nz0 | exact ae_nz1 | exact ae_fz0 | exact ae_fz1 | assumption | omega) only [s_X7_endOfTerm_5, s_X7_endOfTerm_6, s_X7_endOfTerm_9, s_X7_endOfTerm_11, s_X7_endOfTerm_12, s_X7_endOfTerm_15, s_X7_endOfTerm_18, s_X7_endOfTerm_19, s_X7_endOfTerm_20, s_X7_endOfTerm_21, s_X7_endOfTerm_39, s_X7_endOfTerm_41, ae_gw, ae_pw, ae_zw, ae_Ki, ae_Kb, ae_Kj, ae_Ka, ae_Si, ae_Sb, ae_Sj, ae_Sn, List.getElem?_cons_succ, List.getElem?_cons_zero, if_true, if_false, nI_ofNat, true_or, or_true, false_or, or_false, true_and, and_true, or_self, and_self, not_true_eq_false, not_false_eq_true, List.length_cons, List.length_nil, Nat.reduceAdd, Nat.reduceLT, List.set_cons_succ, List.set_cons_zero, Option.toList, List.nil_append, List.cons_append, g1, g2, hp.1, tl]
  | succ k ih =>
    intro ms i h1 h2 h3
    by_cases h0 : ms = 0
    · subst h0
      have g1 : nI 0 ≤ 0 := by rw [nI_0]; decide
      simp (disch := first | exact ae_isR_ref _ | exact ae_isR_null | exact ae_isR_rf _ | exact ae_cat_ref _ | exact ae_cat_int _ | exact ae_cat_null | exact ae_cat_rf _ | exact ae_nz0 | exact ae_nz1 | exact ae_fz0 | exact ae_fz1 | assumption | omega) only [s_X7_endOfTerm_5, s_X7_endOfTerm_6, s_X7_endOfTerm_9, s_X7_endOfTerm_11, s_X7_endOfTerm_12, s_X7_endOfTerm_15, s_X7_endOfTerm_18, s_X7_endOfTerm_19, s_X7_endOfTerm_20, s_X7_endOfTerm_21, s_X7_endOfTerm_39, s_X7_endOfTerm_41, ae_gw, ae_pw, ae_zw, ae_Ki, ae_Kb, ae_Kj, ae_Ka, ae_Si, ae_Sb, ae_Sj, ae_Sn, List.getElem?_cons_succ, List.getElem?_cons_zero, if_true, if_false, nI_ofNat, true_or, or_true, false_or, or_false, true_and, and_true, or_self, and_self, not_true_eq_false, not_false_eq_true, List.length_cons, List.length_nil, Nat.reduceAdd, Nat.reduceLT, List.set_cons_succ, List.set_cons_zero, Option.toList, List.nil_append, List.cons_append, g1, tl]
    · have g1 : ¬ nI ms ≤ 0 := nI_nle (by omega) (by omega)
      by_cases h4 : i < l.length
      · have g2 : ¬ nI l.length ≤ nI i := nI_ge h4 (by omega)
        obtain ⟨m, rfl⟩ : ∃ m, ms = m + 1 := ⟨ms - 1, by omega⟩
        have g3 := arl_le hA (l.getD i 0)
        have g4 := ih (m + A (l.getD i 0)) (i + 1) (by omega) (by omega) (by omega)
        have g5 : tl A l (k + 1) (m + 1) i = tl A l k (m + A (l.getD i 0)) (i + 1) := by
          rw [tl, if_neg (by omega), if_pos h4, show m + 1 + A (l.getD i 0) - 1 = m + A (l.getD i 0) by omega]
        rw [g5, ← g4]
        simp (disch := first | exact ae_isR_ref _ | exact ae_isR_null | exact ae_isR_rf _ | exact ae_cat_ref _ | exact ae_cat_int _ | exact ae_cat_null | exact ae_cat_rf _ | exact ae_nz0 | exact ae_nz1 | exact ae_fz0 | exact ae_fz1 | assumption | omega) only [s_X7_endOfTerm_5, s_X7_endOfTerm_6, s_X7_endOfTerm_9, s_X7_endOfTerm_11, s_X7_endOfTerm_12, s_X7_endOfTerm_15, s_X7_endOfTerm_18, s_X7_endOfTerm_19, s_X7_endOfTerm_20, s_X7_endOfTerm_21, s_X7_endOfTerm_23 hp.1, s_X7_endOfTerm_26 hq.1, m_X1_at_l hp hn hl h4 hln, m_X7_argumentsOf hq hA (show l.getD i 0 < 2 ^ 31 from Nat.lt_trans (hs i h4) (by decide)), s_X7_endOfTerm_29, s_X7_endOfTerm_30, s_X7_endOfTerm_31, s_X7_endOfTerm_32, s_X7_endOfTerm_33, s_X7_endOfTerm_36, ae_gw, ae_pw, ae_zw, ae_Ki, ae_Kb, ae_Kj, ae_Ka, ae_Si, ae_Sb, ae_Sj, ae_Sn, List.getElem?_cons_succ, List.getElem?_cons_zero, if_true, if_false, nI_ofNat, true_or, or_true, false_or, or_false, true_and, and_true, or_self, and_self, not_true_eq_false, not_false_eq_true, List.length_cons, List.length_nil, Nat.reduceAdd, Nat.reduceLT, List.set_cons_succ, List.set_cons_zero, Option.toList, List.nil_append, List.cons_append, g1, g2, hp.1, nI_miss, nI_1]
      · have g2 : nI l.length ≤ nI i := nI_le (by omega) (by omega)
        have g5 : tl A l (k + 1) ms i = i := tl_end A l _ _ _ (by omega)
        simp (disch := first | exact ae_isR_ref _ | exact ae_isR_null | exact ae_isR_rf _ | exact ae_cat_ref _ | exact ae_cat_int _ | exact ae_cat_null | exact ae_cat_rf _ | exact ae_nz0 | exact ae_nz1 | exact ae_fz0 | exact ae_fz1 | assumption | omega) only [s_X7_endOfTerm_5, s_X7_endOfTerm_6, s_X7_endOfTerm_9, s_X7_endOfTerm_11, s_X7_endOfTerm_12, s_X7_endOfTerm_15, s_X7_endOfTerm_18, s_X7_endOfTerm_19, s_X7_endOfTerm_20, s_X7_endOfTerm_21, s_X7_endOfTerm_39, s_X7_endOfTerm_41, ae_gw, ae_pw, ae_zw, ae_Ki, ae_Kb, ae_Kj, ae_Ka, ae_Si, ae_Sb, ae_Sj, ae_Sn, List.getElem?_cons_succ, List.getElem?_cons_zero, if_true, if_false, nI_ofNat, true_or, or_true, false_or, or_false, true_and, and_true, or_self, and_self, not_true_eq_false, not_false_eq_true, List.length_cons, List.length_nil, Nat.reduceAdd, Nat.reduceLT, List.set_cons_succ, List.set_cons_zero, Option.toList, List.nil_append, List.cons_append, g1, g2, hp.1, g5]
theorem m_X7_endOfTerm {i : Nat} (hq : sym h q ns ar fn) (hA : arl A ns ar) (hp : nmb h p n f l.length) (hn : n < 2 ^ 29) (hln : l.length ≤ n) (hl : rowl l f) (hs : sml l) (hi : i ≤ l.length) : ae_wm (d + 1) mX7_endOfTerm [.ref q, .ref p, .int (nI i)] h Q = Q (some (.int (nI (te A l i)))) h := by
  have g := m_X7_eot_loop (d := d) (Q := Q) (l2 := some (.int (nI i))) hq hA hp (by omega) hln hl hs (l.length - i) 1 i (by omega) hi (by omega)
  rw [show nI 1 = 1 from rfl] at g
  simp (disch := first | exact ae_isR_ref _ | exact ae_isR_null | exact ae_isR_rf _ | exact ae_cat_ref _ | exact ae_cat_int _ | exact ae_cat_null | exact ae_cat_rf _ | exact ae_nz0 | exact ae_nz1 | exact ae_fz0 | exact ae_fz1 | assumption | omega) only [s_X7_endOfTerm_0, s_X7_endOfTerm_1, s_X7_endOfTerm_2, s_X7_endOfTerm_3, e_X7_endOfTerm, g, te]
end SYM
