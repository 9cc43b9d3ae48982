/-! NarrowSolver$Solver: putArguments, unify but for deliver -/
def pgl (A : Nat → Nat) (e : List Nat) (v : Int32) (B : List Nat) (b0 bT : Bool) : Nat → Nat → Nat → Nat → List Nat
  | 0, _, _, _ => []
  | n + 1, i, j, k => (if b0 = true then [B.getD k 0] else sbx v B (sl e i (te A e i))) ++ ((if bT = true then [B.getD k 0] else sbx v B (sl e j (te A e j))) ++ pgl A e v B b0 bT n (if b0 = true then i else te A e i) (if bT = true then j else te A e j) (k + 1))
theorem pgl_tf {A : Nat → Nat} {e : List Nat} {v : Int32} {B : List Nat} : ∀ (n i j k : Nat), pgl A e v B true false n i j (1 + k) = bsl A e v B true n j k := by
  intro n
  induction n with
  | zero => intro i j k; rfl
  | succ n ih =>
    intro i j k
    rw [pgl, bsl, show 1 + k + 1 = 1 + (k + 1) by omega]
    simp only [Bool.false_eq_true, ↓reduceIte, List.nil_append, ih]
theorem pgl_ft {A : Nat → Nat} {e : List Nat} {v : Int32} {B : List Nat} : ∀ (n i j k : Nat), pgl A e v B false true n i j (1 + k) = bsl A e v B false n i k := by
  intro n
  induction n with
  | zero => intro i j k; rfl
  | succ n ih =>
    intro i j k
    rw [pgl, bsl, show 1 + k + 1 = 1 + (k + 1) by omega]
    simp only [Bool.false_eq_true, ↓reduceIte, List.nil_append, ih]
theorem pgl_ff {A : Nat → Nat} {e : List Nat} {v : Int32} {B : List Nat} : ∀ (n i j k : Nat), pgl A e v B false false n i j k = gar A e v B n i j := by
  intro n
  induction n with
  | zero => intro i j k; rfl
  | succ n ih =>
    intro i j k
    rw [pgl, gar]
    simp only [Bool.false_eq_true, ↓reduceIte, ih]
theorem pgl_len {A : Nat → Nat} {e : List Nat} {v : Int32} {B : List Nat} {b0 bT : Bool} (hB : B.length ≤ 4) (he : e.length ≤ 300) : ∀ (n i j k : Nat), (pgl A e v B b0 bT n i j k).length ≤ n * 2500 := by
  intro n
  induction n with
  | zero => intro i j k; simp [pgl]
  | succ n ih =>
    intro i j k
    have key : ∀ i (b : Bool), (if b = true then [B.getD k 0] else sbx v B (sl e i (te A e i))).length ≤ 1200 := by
      intro i b
      cases b with
      | true => simp
      | false =>
        have h1 := sbx_len (v := v) hB (sl e i (te A e i))
        have h2 : (sl e i (te A e i)).length ≤ e.length := by
          simp only [sl, List.length_take, List.length_drop]
          omega
        show (sbx v B (sl e i (te A e i))).length ≤ 1200
        omega
    rw [pgl]
    have := ih (if b0 = true then i else te A e i) (if bT = true then j else te A e j) (k + 1)
    have h1 := key i b0
    have h2 := key j bT
    simp only [List.length_append]
    omega
section UNJ
variable {d : Nat} {Q : Option Value → ah_H → Prop} {H : ah_H} {x c p : Nat} {y : rS} {g : Nat → Int32} {e a B L : List Nat} {mn fr : Nat} {A : Nat → Nat} {ns : Nat} {ar fn : Nat → Int32} {F : Nat → Bool}
theorem m_X10_isVariable {h : ah_H} {v : Nat} (hv : v < 2147483648) : ae_wm d mX10_isVariable [.int (nI v)] h Q = Q (some (.int (if 100 ≤ v then nI 1 else nI 0))) h := by
  by_cases c : 100 ≤ v
  · simp (disch := first | exact ae_isR_ref _ | exact ae_isR_null | exact ae_isR_rf _ | exact ae_cat_ref _ | exact ae_cat_int _ | exact ae_cat_null | exact ae_cat_rf _ | exact ae_nz0 | exact ae_nz1 | exact ae_fz0 | exact ae_fz1 | exact cI_na (by omega) | exact cI_ix (by omega) | exact cI_nn (by omega) | exact cI_nz (by omega) | exact cI_cp (by omega) | assumption | omega) only [s_X10_isVariable_0, s_X10_isVariable_1, s_X10_isVariable_3, s_X10_isVariable_6, s_X10_isVariable_7, s_X10_isVariable_10, s_X10_isVariable_11, e_X10_isVariable, Bool.false_eq_true, ae_gw, ae_pw, ae_zw, ae_Ki, ae_Kb, ae_Kj, ae_Ka, ae_Si, ae_Sb, ae_Sj, ae_Sn, List.getElem?_cons_succ, List.getElem?_cons_zero, ↓reduceIte, if_true, if_false, nI_ofNat, true_or, or_true, false_or, or_false, true_and, and_true, false_and, and_false, or_self, and_self, not_true_eq_false, not_false_eq_true, eq_self, List.length_cons, List.length_nil, Nat.reduceAdd, Nat.reduceLT, Nat.reduceSub, List.set_cons_succ, List.set_cons_zero, Option.toList, List.nil_append, List.cons_append, cI_ltT, cI_ltF, cI_leT, cI_leF, cI_eqT, cI_eqF, cI_cl, cN_leT, cN_leF, cN_ltT, cN_ltF, cN_eqT, cN_eqF, cI_add, cI_sub, cI_m1a, cI_m1b, cI_m1c, cI_m1d, cI_m1e, cI_m1f, hs_eq, hs_ne, hs_2, hs_hs, hn_eq, hn_ne, hn_21, hn_22, hn_23]
  · simp (disch := first | exact ae_isR_ref _ | exact ae_isR_null | exact ae_isR_rf _ | exact ae_cat_ref _ | exact ae_cat_int _ | exact ae_cat_null | exact ae_cat_rf _ | exact ae_nz0 | exact ae_nz1 | exact ae_fz0 | exact ae_fz1 | exact cI_na (by omega) | exact cI_ix (by omega) | exact cI_nn (by omega) | exact cI_nz (by omega) | exact cI_cp (by omega) | assumption | omega) only [s_X10_isVariable_0, s_X10_isVariable_1, s_X10_isVariable_3, s_X10_isVariable_6, s_X10_isVariable_7, s_X10_isVariable_10, s_X10_isVariable_11, e_X10_isVariable, Bool.false_eq_true, ae_gw, ae_pw, ae_zw, ae_Ki, ae_Kb, ae_Kj, ae_Ka, ae_Si, ae_Sb, ae_Sj, ae_Sn, List.getElem?_cons_succ, List.getElem?_cons_zero, ↓reduceIte, if_true, if_false, nI_ofNat, true_or, or_true, false_or, or_false, true_and, and_true, false_and, and_false, or_self, and_self, not_true_eq_false, not_false_eq_true, eq_self, List.length_cons, List.length_nil, Nat.reduceAdd, Nat.reduceLT, Nat.reduceSub, List.set_cons_succ, List.set_cons_zero, Option.toList, List.nil_append, List.cons_append, cI_ltT, cI_ltF, cI_leT, cI_leF, cI_eqT, cI_eqF, cI_cl, cN_leT, cN_leF, cN_ltT, cN_ltF, cN_eqT, cN_eqF, cI_add, cI_sub, cI_m1a, cI_m1b, cI_m1c, cI_m1d, cI_m1e, cI_m1f, hs_eq, hs_ne, hs_2, hs_hs, hn_eq, hn_ne, hn_21, hn_22, hn_23]
theorem m_X6_pa (hc : cur H x c p g e a mn fr) (hs : sym H (x + 1) ns ar fn) (hA : arl A ns ar) (hk : kn1 ns e) (hka : kn1 ns a) {v : Int32} {sd i k : Nat} {b : Bool} (hsd : sd < e.length) (hb : b = decide (100 ≤ e.getD sd 0)) (hi : i ≤ e.length) (hcm : b = false → cmp A e (e.length - i) 1 i) (hk2 : b = true → k < B.length) (hk3 : k < 100) (hd : dr y L) (hB : bd y B) (hv : y.1 8 = v) (hL : L.length < 800000) : ∃ y2, (∀ Q, ae_wm (d + 3) mX6_putArgument [.ref (x + 15), .int (nI sd), .int (nI i), .int (nI k)] (ov H x c p y) Q = Q (some (.int (nI (if b = true then i else te A e i)))) (ov H x c p y2)) ∧ dr y2 (L ++ (if b = true then [B.getD k 0] else sbx v B (sl e i (te A e i)))) ∧ frm y y2 [31] [2] [] := by
  have hp := hc.1
  have hl := hc.2.2.2.2.2.2
  have hr := hc.2.2.2.2.2.1
  have hll : (e ++ a).length = e.length + a.length := List.length_append
  have gA := fun Q => m_X1_at_l (d := d + 2) (Q := Q) (i := sd) (cu_n (y := y) hc) (by omega) hr (by omega) hl
  rw [getD_app1 hsd] at gA
  have hks := hk sd hsd
  have hns := hA.1
  have gV := fun (h : ah_H) Q => m_X10_isVariable (d := d + 2) (Q := Q) (h := h) (v := e.getD sd 0) (by omega)
  by_cases c1 : 100 ≤ e.getD sd 0
  · have : b = true := by rw [hb]; exact decide_eq_true c1
    subst this
    rw [if_pos rfl, if_pos rfl]
    simp only [if_pos c1] at gV
    obtain ⟨sz, s1, s2⟩ := hd
    have hB1 := hB.2.1 k (hk2 rfl)
    have gB := fun Q => m_X1_at_l (d := d + 2) (Q := Q) (i := k) (nmb_b (H := H) (x := x) (c := c) (p := p) (y := y) hB.1) (by omega) hB.2.1 (hk2 rfl) hB.2.2
    have gP := fun Q => m_X1_put (d := d + 2) (Q := Q) (v := nI (B.getD k 0)) (nmb_d (H := H) (c := c) hp s1) (by omega) (by have := s2.1; omega)
    simp only [nset_d hp] at gP
    refine ⟨uI (uR y 2 (if sz < 300 then upd (y.2.1 2) sz (nI (B.getD k 0)) else y.2.1 2)) 31 (nI (sz + 1)), fun Q => ?_, ⟨sz + 1, by simp [uI], by
      have := drn_put (v := B.getD k 0) s2
      simpa [uI, uR] using this⟩, ⟨fun t ht => ?_, fun t ht => ?_, fun _ _ => rfl⟩⟩
    · simp (disch := first | exact ae_isR_ref _ | exact ae_isR_null | exact ae_isR_rf _ | exact ae_cat_ref _ | exact ae_cat_int _ | exact ae_cat_null | exact ae_cat_rf _ | exact ae_nz0 | exact ae_nz1 | exact ae_fz0 | exact ae_fz1 | exact cI_na (by omega) | exact cI_ix (by omega) | exact cI_nn (by omega) | exact cI_nz (by omega) | exact cI_cp (by omega) | assumption | omega) only [s_X6_putArgument_0, s_X6_putArgument_1, s_X6_putArgument_4, s_X6_putArgument_7, s_X6_putArgument_8 (cu_n hc).1, s_X6_putArgument_11, s_X6_putArgument_14, s_X6_putArgument_17, s_X6_putArgument_18, s_X6_putArgument_21, s_X6_putArgument_24, s_X6_putArgument_25, s_X6_putArgument_28, s_X6_putArgument_29 ov_20, s_X6_putArgument_32 (ov_p1 hp), s_X6_putArgument_35, s_X6_putArgument_36, e_X6_putArgument, og_0, og_1, og_2, og_3, og_4, og_5, og_6, og_7, og_8, og_9, og_10, og_11, og_12, op_6, op_8, op_9, op_10, op_11, op_12, dg_0, dg_1, dg_2, dg_3, dp_1, dp_2, dp_3, ng_b, ng_d, mz_m, ms_m, ov_2, nset_d, nset_b, uI_1, uI_2, uR_1, uR_21, uR_22, va_rf, Bool.false_eq_true, ae_Ki, ae_Kb, ae_Kj, ae_Ka, ae_Si, ae_Sb, ae_Sj, ae_Sn, List.getElem?_cons_succ, List.getElem?_cons_zero, ↓reduceIte, if_true, if_false, nI_ofNat, true_or, or_true, false_or, or_false, true_and, and_true, false_and, and_false, or_self, and_self, not_true_eq_false, not_false_eq_true, eq_self, List.length_cons, List.length_nil, Nat.reduceAdd, Nat.reduceLT, Nat.reduceSub, List.set_cons_succ, List.set_cons_zero, Option.toList, List.nil_append, List.cons_append, cI_ltT, cI_ltF, cI_leT, cI_leF, cI_eqT, cI_eqF, cI_cl, cN_leT, cN_leF, cN_ltT, cN_ltF, cN_eqT, cN_eqF, cI_add, cI_sub, cI_m1a, cI_m1b, cI_m1c, cI_m1d, cI_m1e, cI_m1f, cg_0 hc, gA, gV, gB, gP]
    · simp only [List.mem_cons, List.not_mem_nil, or_false] at ht
      simp [uI, uR, ht]
    · simp only [List.mem_cons, List.not_mem_nil, or_false] at ht
      simp [uI, uR, ht]
  · have : b = false := by rw [hb]; exact decide_eq_false c1
    subst this
    rw [if_neg (by decide), if_neg (by decide)]
    simp only [if_neg c1] at gV
    have hsml : sml (e ++ a) := fun i hi => by
      have := kn1_app hk hka i hi
      omega
    have hss := sym_ov (c := c) (y := y) hp hs
    have gE := fun Q => m_X7_endOfTerm (d := d + 1) (Q := Q) (i := i) hss hA (cu_n (y := y) hc) (by omega) hl hr hsml (by omega)
    rw [te_app (hcm rfl)] at gE
    have htl := te_le A e hi
    obtain ⟨y2, k1, k2, k3⟩ := m_X6_copyBound (d := d) (B := B) (y := y) hc (i := i) (to := te A e i) (te_ge A e i) (by omega) hd hB hv hL
    rw [sl_app1 htl] at k2
    refine ⟨y2, fun Q => ?_, k2, k3⟩
    simp (disch := first | exact ae_isR_ref _ | exact ae_isR_null | exact ae_isR_rf _ | exact ae_cat_ref _ | exact ae_cat_int _ | exact ae_cat_null | exact ae_cat_rf _ | exact ae_nz0 | exact ae_nz1 | exact ae_fz0 | exact ae_fz1 | exact cI_na (by omega) | exact cI_ix (by omega) | exact cI_nn (by omega) | exact cI_nz (by omega) | exact cI_cp (by omega) | assumption | omega) only [s_X6_putArgument_0, s_X6_putArgument_1, s_X6_putArgument_4, s_X6_putArgument_7, s_X6_putArgument_8 (cu_n hc).1, s_X6_putArgument_11, s_X6_putArgument_14, e_X6_putArgument, s_X6_putArgument_37, s_X6_putArgument_38, s_X6_putArgument_41, s_X6_putArgument_42, s_X6_putArgument_45, s_X6_putArgument_48, s_X6_putArgument_49 hss.1, s_X6_putArgument_52, s_X6_putArgument_54, s_X6_putArgument_55, s_X6_putArgument_56, s_X6_putArgument_58 ov_15, s_X6_putArgument_61, s_X6_putArgument_63, og_0, og_1, og_2, og_3, og_4, og_5, og_6, og_7, og_8, og_9, og_10, og_11, og_12, op_6, op_8, op_9, op_10, op_11, op_12, dg_0, dg_1, dg_2, dg_3, dp_1, dp_2, dp_3, ng_b, ng_d, mz_m, ms_m, ov_2, nset_d, nset_b, uI_1, uI_2, uR_1, uR_21, uR_22, va_rf, Bool.false_eq_true, ae_Ki, ae_Kb, ae_Kj, ae_Ka, ae_Si, ae_Sb, ae_Sj, ae_Sn, List.getElem?_cons_succ, List.getElem?_cons_zero, ↓reduceIte, if_true, if_false, nI_ofNat, true_or, or_true, false_or, or_false, true_and, and_true, false_and, and_false, or_self, and_self, not_true_eq_false, not_false_eq_true, eq_self, List.length_cons, List.length_nil, Nat.reduceAdd, Nat.reduceLT, Nat.reduceSub, List.set_cons_succ, List.set_cons_zero, Option.toList, List.nil_append, List.cons_append, cI_ltT, cI_ltF, cI_leT, cI_leF, cI_eqT, cI_eqF, cI_cl, cN_leT, cN_leF, cN_ltT, cN_ltF, cN_eqT, cN_eqF, cI_add, cI_sub, cI_m1a, cI_m1b, cI_m1c, cI_m1d, cI_m1e, cI_m1f, cg_0 hc, gA, gV, gE, k1]
theorem m_X6_pas_loop (hc : cur H x c p g e a mn fr) (hs : sym H (x + 1) ns ar fn) (hA : arl A ns ar) (hk : kn1 ns e) (hka : kn1 ns a) {v : Int32} {t N : Nat} {b0 bT : Bool} (h0 : 0 < e.length) (ht : t < e.length) (hb0 : b0 = decide (100 ≤ e.getD 0 0)) (hbT : bT = decide (100 ≤ e.getD t 0)) (hN : N ≤ 3) (hBl : b0 = true ∨ bT = true → N = 0 ∨ B.length = N + 1) {l2 : Option Value} : ∀ (n i j k m1 m2 : Nat) (L : List Nat) (y : rS), k + n = N + 1 → 1 ≤ k → i ≤ e.length → j ≤ e.length → (b0 = false → rn A (e.drop i) (n + m1) = some 0) → (bT = false → rn A (e.drop j) (n + m2) = some 0) → dr y L → bd y B → y.1 8 = v → L.length + n * 2500 < 700000 → ∃ y2 x4 x5, (∀ Q, ae_wp (d + 4) mX6_putArguments 20 [some (.ref (x + 15)), some (.int (nI t)), l2, some (.int (nI N)), some (.int (nI i)), some (.int (nI j)), some (.int (nI k))] [] (ov H x c p y) Q = ae_wp (d + 4) mX6_putArguments 54 [some (.ref (x + 15)), some (.int (nI t)), l2, some (.int (nI N)), x4, x5, some (.int (nI (N + 1)))] [] (ov H x c p y2) Q) ∧ dr y2 (L ++ pgl A e v B b0 bT n i j k) ∧ frm y y2 [31] [2] [] := by
  have hp := hc.1
  have hl := hc.2.2.2.2.2.2
  have hll : (e ++ a).length = e.length + a.length := List.length_append
  intro n
  induction n with
  | zero =>
    intro i j k m1 m2 L y hk1 hk2 hi hj h1 h2 hd hB hv hL
    have e1 : k = N + 1 := by omega
    subst e1
    refine ⟨y, some (.int (nI i)), some (.int (nI j)), fun Q => ?_, by rw [pgl, List.append_nil]; exact hd, frm_refl _ _ _ _⟩
    simp (disch := first | exact ae_isR_ref _ | exact ae_isR_null | exact ae_isR_rf _ | exact ae_cat_ref _ | exact ae_cat_int _ | exact ae_cat_null | exact ae_cat_rf _ | exact ae_nz0 | exact ae_nz1 | exact ae_fz0 | exact ae_fz1 | exact cI_na (by omega) | exact cI_ix (by omega) | exact cI_nn (by omega) | exact cI_nz (by omega) | exact cI_cp (by omega) | assumption | omega) only [s_X6_putArguments_20, s_X6_putArguments_22, s_X6_putArguments_23, og_0, og_1, og_2, og_3, og_4, og_5, og_6, og_7, og_8, og_9, og_10, og_11, og_12, op_6, op_8, op_9, op_10, op_11, op_12, dg_0, dg_1, dg_2, dg_3, dp_1, dp_2, dp_3, ng_b, ng_d, mz_m, ms_m, ov_2, nset_d, nset_b, uI_1, uI_2, uR_1, uR_21, uR_22, va_rf, Bool.false_eq_true, ae_Ki, ae_Kb, ae_Kj, ae_Ka, ae_Si, ae_Sb, ae_Sj, ae_Sn, List.getElem?_cons_succ, List.getElem?_cons_zero, ↓reduceIte, if_true, if_false, nI_ofNat, true_or, or_true, false_or, or_false, true_and, and_true, false_and, and_false, or_self, and_self, not_true_eq_false, not_false_eq_true, eq_self, List.length_cons, List.length_nil, Nat.reduceAdd, Nat.reduceLT, Nat.reduceSub, List.set_cons_succ, List.set_cons_zero, Option.toList, List.nil_append, List.cons_append, cI_ltT, cI_ltF, cI_leT, cI_leF, cI_eqT, cI_eqF, cI_cl, cN_leT, cN_leF, cN_ltT, cN_ltF, cN_eqT, cN_eqF, cI_add, cI_sub, cI_m1a, cI_m1b, cI_m1c, cI_m1d, cI_m1e, cI_m1f]
  | succ n ih =>
    intro i j k m1 m2 L y hk1 hk2 hi hj h1 h2 hd hB hv hL
    have t1 : b0 = false → cmp A e (e.length - i) 1 i ∧ te A e i ≤ e.length ∧ rn A (e.drop (te A e i)) (n + m1) = some 0 := fun z => by
      obtain ⟨a1, a2, a3, a4, a5⟩ := rn_te (A := A) (l := e) (i := i) (m := n + m1) (by rw [show n + m1 + 1 = n + 1 + m1 by omega]; exact h1 z)
      exact ⟨a3, a2, a5⟩
    have t2 : bT = false → cmp A e (e.length - j) 1 j ∧ te A e j ≤ e.length ∧ rn A (e.drop (te A e j)) (n + m2) = some 0 := fun z => by
      obtain ⟨a1, a2, a3, a4, a5⟩ := rn_te (A := A) (l := e) (i := j) (m := n + m2) (by rw [show n + m2 + 1 = n + 1 + m2 by omega]; exact h2 z)
      exact ⟨a3, a2, a5⟩
    obtain ⟨y1, p1, p2, p3⟩ := m_X6_pa (d := d) (y := y) (k := k) hc hs hA hk hka (sd := 0) (b := b0) h0 hb0 hi (fun z => (t1 z).1) (fun z => by have := hBl (Or.inl z); omega) (by omega) hd hB hv (by omega)
    have hB1 := bd_frm p3 (by decide) (by decide) hB
    have hv1 : y1.1 8 = v := by rw [p3.1 8 (by decide)]; exact hv
    have hlen1 : (if b0 = true then [B.getD k 0] else sbx v B (sl e i (te A e i))).length ≤ 1200 := by
      cases b0 with
      | true => simp
      | false =>
        have h3 := sbx_len (v := v) hB.2.2 (sl e i (te A e i))
        have h4 : (sl e i (te A e i)).length ≤ e.length := by simp only [sl, List.length_take, List.length_drop]; omega
        show (sbx v B (sl e i (te A e i))).length ≤ 1200
        omega
    have hlen2 : (if bT = true then [B.getD k 0] else sbx v B (sl e j (te A e j))).length ≤ 1200 := by
      cases bT with
      | true => simp
      | false =>
        have h3 := sbx_len (v := v) hB.2.2 (sl e j (te A e j))
        have h4 : (sl e j (te A e j)).length ≤ e.length := by simp only [sl, List.length_take, List.length_drop]; omega
        show (sbx v B (sl e j (te A e j))).length ≤ 1200
        omega
    obtain ⟨y2, q1, q2, q3⟩ := m_X6_pa (d := d) (y := y1) (k := k) hc hs hA hk hka (sd := t) (b := bT) ht hbT hj (fun z => (t2 z).1) (fun z => by have := hBl (Or.inr z); omega) (by omega) p2 hB1 hv1 (by rw [List.length_append]; omega)
    have hB2 := bd_frm q3 (by decide) (by decide) hB1
    have hv2 : y2.1 8 = v := by rw [q3.1 8 (by decide)]; exact hv1
    obtain ⟨y3, x4, x5, i1, i2, i3⟩ := ih (if b0 = true then i else te A e i) (if bT = true then j else te A e j) (k + 1) m1 m2 _ y2 (by omega) (by omega) (by cases b0 with
        | true => exact hi
        | false => exact (t1 rfl).2.1) (by cases bT with
        | true => exact hj
        | false => exact (t2 rfl).2.1) (fun z => by
        have := (t1 z).2.2
        subst z
        exact this) (fun z => by
        have := (t2 z).2.2
        subst z
        exact this) q2 hB2 hv2 (by simp only [List.length_append]; omega)
    refine ⟨y3, x4, x5, fun Q => ?_, ?_, frm_trans p3 (frm_trans q3 i3)⟩
    · refine Eq.trans ?_ (s_X6_putArguments_51.trans (i1 Q))
      simp (disch := first | exact ae_isR_ref _ | exact ae_isR_null | exact ae_isR_rf _ | exact ae_cat_ref _ | exact ae_cat_int _ | exact ae_cat_null | exact ae_cat_rf _ | exact ae_nz0 | exact ae_nz1 | exact ae_fz0 | exact ae_fz1 | exact cI_na (by omega) | exact cI_ix (by omega) | exact cI_nn (by omega) | exact cI_nz (by omega) | exact cI_cp (by omega) | assumption | omega) only [s_X6_putArguments_20, s_X6_putArguments_22, s_X6_putArguments_23, s_X6_putArguments_26, s_X6_putArguments_27, s_X6_putArguments_28, s_X6_putArguments_30, s_X6_putArguments_32 ov_15, s_X6_putArguments_35, s_X6_putArguments_37, s_X6_putArguments_38, s_X6_putArguments_39, s_X6_putArguments_41, s_X6_putArguments_43 ov_15, s_X6_putArguments_46, s_X6_putArguments_48, og_0, og_1, og_2, og_3, og_4, og_5, og_6, og_7, og_8, og_9, og_10, og_11, og_12, op_6, op_8, op_9, op_10, op_11, op_12, dg_0, dg_1, dg_2, dg_3, dp_1, dp_2, dp_3, ng_b, ng_d, mz_m, ms_m, ov_2, nset_d, nset_b, uI_1, uI_2, uR_1, uR_21, uR_22, va_rf, Bool.false_eq_true, ae_Ki, ae_Kb, ae_Kj, ae_Ka, ae_Si, ae_Sb, ae_Sj, ae_Sn, List.getElem?_cons_succ, List.getElem?_cons_zero, ↓reduceIte, if_true, if_false, nI_ofNat, true_or, or_true, false_or, or_false, true_and, and_true, false_and, and_false, or_self, and_self, not_true_eq_false, not_false_eq_true, eq_self, List.length_cons, List.length_nil, Nat.reduceAdd, Nat.reduceLT, Nat.reduceSub, List.set_cons_succ, List.set_cons_zero, Option.toList, List.nil_append, List.cons_append, cI_ltT, cI_ltF, cI_leT, cI_leF, cI_eqT, cI_eqF, cI_cl, cN_leT, cN_leF, cN_ltT, cN_ltF, cN_eqT, cN_eqF, cI_add, cI_sub, cI_m1a, cI_m1b, cI_m1c, cI_m1d, cI_m1e, cI_m1f, p1, q1]
    · rw [pgl, ← List.append_assoc, ← List.append_assoc]
      exact i2
theorem m_X6_putArguments (hc : cur H x c p g e a mn fr) (hs : sym H (x + 1) ns ar fn) (hA : arl A ns ar) (hk : kn1 ns e) (hka : kn1 ns a) {v : Int32} {t hd : Nat} {b0 bT : Bool} (h0 : 0 < e.length) (ht : t < e.length) (hb0 : b0 = decide (100 ≤ e.getD 0 0)) (hbT : bT = decide (100 ≤ e.getD t 0)) (hh : hd < 256) (hBl : b0 = true ∨ bT = true → A hd = 0 ∨ B.length = A hd + 1) {m1 m2 : Nat} (h1 : b0 = false → rn A (e.drop 1) (A hd + m1) = some 0) (h2 : bT = false → rn A (e.drop (t + 1)) (A hd + m2) = some 0) (hd1 : dr y L) (hB : bd y B) (hv : y.1 8 = v) (hL : L.length < 100000) {q : Nat} (hq : y.1 20 = nI q) (hq1 : 1 ≤ q ∧ q < 1000) : ∃ y2, (∀ Q, ae_wm (d + 4) mX6_putArguments [.ref (x + 15), .int (nI t), .int (nI hd)] (ov H x c p y) Q = Q none (ov H x c p y2)) ∧ dr y2 (L ++ pgl A e v B b0 bT (A hd) 1 (t + 1) 1) ∧ y2.1 20 = nI (q - 1 + A hd) ∧ frm y y2 [20, 31] [2] [] := by
  have hp := hc.1
  have hl := hc.2.2.2.2.2.2
  have hA3 := arl_le hA hd
  have hll : (e ++ a).length = e.length + a.length := List.length_append
  have hss := sym_ov (c := c) (y := y) hp hs
  have gA := fun Q => m_X7_argumentsOf (d := d + 3) (Q := Q) (v := hd) hss hA (by omega)
  obtain ⟨y2, x4, x5, k1, k2, k3⟩ := m_X6_pas_loop (d := d) hc hs hA hk hka h0 ht hb0 hbT hA3 hBl (l2 := some (.int (nI hd))) (A hd) 1 (t + 1) 1 m1 m2 L y (by omega) (by omega) (by omega) (by omega) h1 h2 hd1 hB hv (by omega)
  have hq2 : y2.1 20 = nI q := by rw [k3.1 20 (by decide)]; exact hq
  refine ⟨uI y2 20 (nI (q - 1 + A hd)), fun Q => ?_, dr_frm (frm_uI _ _ _) (by decide) (by decide) k2, by simp [uI], frm_trans (frm_mono k3 (by simp) (by simp) (by simp)) (frm_mono (frm_uI _ _ _) (by simp) (by simp) (by simp))⟩
  have ea : nI q + (nI (A hd) - nI 1) = nI (q - 1 + A hd) := by rw [cI_miss (by omega)]; congr 1; omega
  simp (disch := first | exact ae_isR_ref _ | exact ae_isR_null | exact ae_isR_rf _ | exact ae_cat_ref _ | exact ae_cat_int _ | exact ae_cat_null | exact ae_cat_rf _ | exact ae_nz0 | exact ae_nz1 | exact ae_fz0 | exact ae_fz1 | exact cI_na (by omega) | exact cI_ix (by omega) | exact cI_nn (by omega) | exact cI_nz (by omega) | exact cI_cp (by omega) | assumption | omega) only [s_X6_putArguments_0, s_X6_putArguments_1, s_X6_putArguments_4, s_X6_putArguments_5 hss.1, s_X6_putArguments_8, s_X6_putArguments_9, s_X6_putArguments_10, s_X6_putArguments_12, s_X6_putArguments_13, s_X6_putArguments_14, s_X6_putArguments_15, s_X6_putArguments_17, s_X6_putArguments_18, e_X6_putArguments, k1, s_X6_putArguments_54, s_X6_putArguments_55, s_X6_putArguments_58, s_X6_putArguments_59, s_X6_putArguments_62, s_X6_putArguments_63, s_X6_putArguments_64, s_X6_putArguments_65, s_X6_putArguments_66, s_X6_putArguments_69, og_0, og_1, og_2, og_3, og_4, og_5, og_6, og_7, og_8, og_9, og_10, og_11, og_12, op_6, op_8, op_9, op_10, op_11, op_12, dg_0, dg_1, dg_2, dg_3, dp_1, dp_2, dp_3, ng_b, ng_d, mz_m, ms_m, ov_2, nset_d, nset_b, uI_1, uI_2, uR_1, uR_21, uR_22, va_rf, Bool.false_eq_true, ae_Ki, ae_Kb, ae_Kj, ae_Ka, ae_Si, ae_Sb, ae_Sj, ae_Sn, List.getElem?_cons_succ, List.getElem?_cons_zero, ↓reduceIte, if_true, if_false, nI_ofNat, true_or, or_true, false_or, or_false, true_and, and_true, false_and, and_false, or_self, and_self, not_true_eq_false, not_false_eq_true, eq_self, List.length_cons, List.length_nil, Nat.reduceAdd, Nat.reduceLT, Nat.reduceSub, List.set_cons_succ, List.set_cons_zero, Option.toList, List.nil_append, List.cons_append, cI_ltT, cI_ltF, cI_leT, cI_leF, cI_eqT, cI_eqF, cI_cl, cN_leT, cN_leF, cN_ltT, cN_ltF, cN_eqT, cN_eqF, cI_add, cI_sub, cI_m1a, cI_m1b, cI_m1c, cI_m1d, cI_m1e, cI_m1f, gA, hq2, ea]
end UNJ
