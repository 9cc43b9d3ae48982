/-! NarrowSolver$Numbers: putAll; a row that may run over -/
def drn (n : Nat) (f : Nat → Int32) (sz : Nat) (L : List Nat) : Prop := sz ≤ L.length ∧ (L.length ≤ n → sz = L.length ∧ rowl L f) ∧ (n < L.length → n < sz)
theorem rowl_snoc {L : List Nat} {f : Nat → Int32} {v : Nat} (h : rowl L f) : rowl (L ++ [v]) (upd f L.length (nI v)) := by
  intro i hi
  simp only [upd]
  by_cases e : i = L.length
  · rw [if_pos e, e]
    congr 1
    simp [List.getD_eq_getElem?_getD]
  · rw [if_neg e]
    have hi2 : i < L.length := by simp at hi; omega
    rw [h i hi2]
    congr 1
    simp [List.getD_eq_getElem?_getD, List.getElem?_append_left hi2]
theorem drn_put {n : Nat} {f : Nat → Int32} {sz : Nat} {L : List Nat} {v : Nat} (h : drn n f sz L) : drn n (if sz < n then upd f sz (nI v) else f) (sz + 1) (L ++ [v]) := by
  obtain ⟨h1, h2, h3⟩ := h
  have hl : (L ++ [v]).length = L.length + 1 := by simp
  refine ⟨by omega, fun h4 => ?_, fun h4 => ?_⟩
  · obtain ⟨h5, h6⟩ := h2 (by omega)
    refine ⟨by omega, ?_⟩
    rw [if_pos (by omega), h5]
    exact rowl_snoc h6
  · rcases Nat.lt_or_ge n L.length with z | z
    · have := h3 z; omega
    · have := (h2 z).1; omega
theorem drn_over {n : Nat} {f : Nat → Int32} {sz : Nat} {L M : List Nat} (h : drn n f sz L) (ho : n < sz) : drn n f sz (L ++ M) := by
  obtain ⟨h1, h2, h3⟩ := h
  have hl : (L ++ M).length = L.length + M.length := by simp
  exact ⟨by omega, fun h4 => by have := (h2 (by omega)).1; omega, fun _ => ho⟩
theorem drn_nil (n : Nat) (f : Nat → Int32) : drn n f 0 [] := ⟨Nat.le_refl _, fun _ => ⟨rfl, fun i hi => by simp at hi⟩, fun h => by simp at h⟩
section NUM2
variable {d : Nat} {Q : Option Value → ah_H → Prop} {h : ah_H} {q n sz : Nat} {f : Nat → Int32}
theorem m_X1_putAll_loop {o m : Nat} {g : Nat → Int32} {l : List Nat} (hn : n < 1000) (ho : h.1 o = some (.inr (1, [.ref (o + 1), .int (nI l.length)])) ∧ h.1 (o + 1) = some (.inl (0, m, .inl g))) (hne : o ≠ q ∧ o ≠ q + 1 ∧ o + 1 ≠ q) (hl : rowl l g) (hlm : l.length ≤ m) (hm : m < 1000) {j : Nat} (hj : j ≤ l.length) {l2 : Option Value} : ∀ (k i : Nat) (f : Nat → Int32) (sz : Nat), i + k = j → sz ≤ n + 1 ∨ sz < 1000000 → ∃ f' sz', (∀ Q, ae_wp (d + 1) mX1_putAll 3 [some (.ref q), some (.ref o), l2, some (.int (nI j)), some (.int (nI i))] [] (nset h q n f sz) Q = Q none (nset h q n f' sz')) ∧ (∀ L, drn n f sz L → drn n f' sz' (L ++ sl l i j)) ∧ (sz' ≤ sz ∨ sz' ≤ n + 1) := by
  intro k
  induction k with
  | zero =>
    intro i f sz hi hsz
    refine ⟨f, sz, fun Q => ?_, fun L hL => by rw [sl_nil (by omega), List.append_nil]; exact hL, Or.inl (Nat.le_refl _)⟩
    simp (disch := first | exact ae_isR_ref _ | exact ae_isR_null | exact ae_isR_rf _ | exact ae_cat_ref _ | exact ae_cat_int _ | exact ae_cat_null | exact ae_cat_rf _ | exact ae_nz0 | exact ae_nz1 | exact ae_fz0 | exact ae_fz1 | exact cI_na (by omega) | exact cI_ix (by omega) | exact cI_nn (by omega) | exact cI_nz (by omega) | exact cI_cp (by omega) | assumption | omega) only [s_X1_putAll_3, s_X1_putAll_5, s_X1_putAll_6, s_X1_putAll_32, Bool.false_eq_true, ae_gw, ae_pw, ae_zw, ae_Ki, ae_Kb, ae_Kj, ae_Ka, ae_Si, ae_Sb, ae_Sj, ae_Sn, List.getElem?_cons_succ, List.getElem?_cons_zero, ↓reduceIte, if_true, if_false, nI_ofNat, true_or, or_true, false_or, or_false, true_and, and_true, false_and, and_false, or_self, and_self, not_true_eq_false, not_false_eq_true, eq_self, List.length_cons, List.length_nil, Nat.reduceAdd, Nat.reduceLT, Nat.reduceSub, List.set_cons_succ, List.set_cons_zero, Option.toList, List.nil_append, List.cons_append, cI_ltT, cI_ltF, cI_leT, cI_leF, cI_eqT, cI_eqF, cI_cl, cN_leT, cN_leF, cN_ltT, cN_ltF, cN_eqT, cN_eqF, cI_add, cI_sub, cI_m1a, cI_m1b, cI_m1c, cI_m1d, cI_m1e, cI_m1f, hs_eq, hs_ne, hs_2, hs_hs, hn_eq, hn_ne, hn_21, hn_22, hn_23]
  | succ k ih =>
    intro i f sz hi hsz
    have hq := nset_nmb h q n f sz
    have gO := fun Q => m_X1_isOver (d := d) (Q := Q) hq (by omega) (by omega)
    by_cases c : n < sz
    · rw [if_pos c] at gO
      refine ⟨f, sz, fun Q => ?_, fun L hL => drn_over hL c, Or.inl (Nat.le_refl _)⟩
      simp (disch := first | exact ae_isR_ref _ | exact ae_isR_null | exact ae_isR_rf _ | exact ae_cat_ref _ | exact ae_cat_int _ | exact ae_cat_null | exact ae_cat_rf _ | exact ae_nz0 | exact ae_nz1 | exact ae_fz0 | exact ae_fz1 | exact cI_na (by omega) | exact cI_ix (by omega) | exact cI_nn (by omega) | exact cI_nz (by omega) | exact cI_cp (by omega) | assumption | omega) only [s_X1_putAll_3, s_X1_putAll_5, s_X1_putAll_6, s_X1_putAll_9, s_X1_putAll_10 hq.1, s_X1_putAll_13, s_X1_putAll_32, Bool.false_eq_true, ae_gw, ae_pw, ae_zw, ae_Ki, ae_Kb, ae_Kj, ae_Ka, ae_Si, ae_Sb, ae_Sj, ae_Sn, List.getElem?_cons_succ, List.getElem?_cons_zero, ↓reduceIte, if_true, if_false, nI_ofNat, true_or, or_true, false_or, or_false, true_and, and_true, false_and, and_false, or_self, and_self, not_true_eq_false, not_false_eq_true, eq_self, List.length_cons, List.length_nil, Nat.reduceAdd, Nat.reduceLT, Nat.reduceSub, List.set_cons_succ, List.set_cons_zero, Option.toList, List.nil_append, List.cons_append, cI_ltT, cI_ltF, cI_leT, cI_leF, cI_eqT, cI_eqF, cI_cl, cN_leT, cN_leF, cN_ltT, cN_ltF, cN_eqT, cN_eqF, cI_add, cI_sub, cI_m1a, cI_m1b, cI_m1c, cI_m1d, cI_m1e, cI_m1f, hs_eq, hs_ne, hs_2, hs_hs, hn_eq, hn_ne, hn_21, hn_22, hn_23, gO]
    · rw [if_neg c] at gO
      have hO : nmb (nset h q n f sz) o m g l.length := ⟨by rw [nset_ne ⟨hne.1, hne.2.1⟩]; exact ho.1, by rw [nset_ne ⟨hne.2.2, by omega⟩]; exact ho.2⟩
      have gA := fun Q => m_X1_at_l (d := d) (Q := Q) (i := i) hO (by omega) hl (by omega) hlm
      have gP := fun Q => m_X1_put (d := d) (Q := Q) (v := nI (l.getD i 0)) hq (by omega) (by omega)
      simp only [nset_nset] at gP
      obtain ⟨f', sz', k1, k2, k3⟩ := ih (i + 1) (if sz < n then upd f sz (nI (l.getD i 0)) else f) (sz + 1) (by omega) (by omega)
      refine ⟨f', sz', fun Q => ?_, fun L hL => ?_, by omega⟩
      · refine Eq.trans ?_ (s_X1_putAll_29.trans (k1 Q))
        simp (disch := first | exact ae_isR_ref _ | exact ae_isR_null | exact ae_isR_rf _ | exact ae_cat_ref _ | exact ae_cat_int _ | exact ae_cat_null | exact ae_cat_rf _ | exact ae_nz0 | exact ae_nz1 | exact ae_fz0 | exact ae_fz1 | exact cI_na (by omega) | exact cI_ix (by omega) | exact cI_nn (by omega) | exact cI_nz (by omega) | exact cI_cp (by omega) | assumption | omega) only [s_X1_putAll_3, s_X1_putAll_5, s_X1_putAll_6, s_X1_putAll_9, s_X1_putAll_10 hq.1, s_X1_putAll_13, s_X1_putAll_16, s_X1_putAll_17, s_X1_putAll_18, s_X1_putAll_20 hO.1, s_X1_putAll_23 hq.1, s_X1_putAll_26, Bool.false_eq_true, ae_gw, ae_pw, ae_zw, ae_Ki, ae_Kb, ae_Kj, ae_Ka, ae_Si, ae_Sb, ae_Sj, ae_Sn, List.getElem?_cons_succ, List.getElem?_cons_zero, ↓reduceIte, if_true, if_false, nI_ofNat, true_or, or_true, false_or, or_false, true_and, and_true, false_and, and_false, or_self, and_self, not_true_eq_false, not_false_eq_true, eq_self, List.length_cons, List.length_nil, Nat.reduceAdd, Nat.reduceLT, Nat.reduceSub, List.set_cons_succ, List.set_cons_zero, Option.toList, List.nil_append, List.cons_append, cI_ltT, cI_ltF, cI_leT, cI_leF, cI_eqT, cI_eqF, cI_cl, cN_leT, cN_leF, cN_ltT, cN_ltF, cN_eqT, cN_eqF, cI_add, cI_sub, cI_m1a, cI_m1b, cI_m1c, cI_m1d, cI_m1e, cI_m1f, hs_eq, hs_ne, hs_2, hs_hs, hn_eq, hn_ne, hn_21, hn_22, hn_23, gO, gA, gP]
      · rw [sl_cons (by omega) hj, List.append_cons]
        exact k2 _ (drn_put hL)
theorem m_X1_putAll {o m : Nat} {g : Nat → Int32} {l : List Nat} (hq : nmb h q n f sz) (hn : n < 1000) (hsz : sz < 1000000) (ho : h.1 o = some (.inr (1, [.ref (o + 1), .int (nI l.length)])) ∧ h.1 (o + 1) = some (.inl (0, m, .inl g))) (hne : o ≠ q ∧ o ≠ q + 1 ∧ o + 1 ≠ q) (hl : rowl l g) (hlm : l.length ≤ m) (hm : m < 1000) {i j : Nat} (hij : i ≤ j) (hj : j ≤ l.length) : ∃ f' sz', (∀ Q, ae_wm (d + 1) mX1_putAll [.ref q, .ref o, .int (nI i), .int (nI j)] h Q = Q none (nset h q n f' sz')) ∧ (∀ L, drn n f sz L → drn n f' sz' (L ++ sl l i j)) ∧ (sz' ≤ sz ∨ sz' ≤ n + 1) := by
  obtain ⟨f', sz', k1, k2, k3⟩ := m_X1_putAll_loop (d := d) (h := h) (q := q) hn ho hne hl hlm hm hj (l2 := some (.int (nI i))) (j - i) i f sz (by omega) (Or.inr hsz)
  rw [nset_same hq] at k1
  refine ⟨f', sz', fun Q => ?_, k2, k3⟩
  simp (disch := first | exact ae_isR_ref _ | exact ae_isR_null | exact ae_isR_rf _ | exact ae_cat_ref _ | exact ae_cat_int _ | exact ae_cat_null | exact ae_cat_rf _ | exact ae_nz0 | exact ae_nz1 | exact ae_fz0 | exact ae_fz1 | exact cI_na (by omega) | exact cI_ix (by omega) | exact cI_nn (by omega) | exact cI_nz (by omega) | exact cI_cp (by omega) | assumption | omega) only [s_X1_putAll_0, s_X1_putAll_1, e_X1_putAll, k1]
end NUM2
