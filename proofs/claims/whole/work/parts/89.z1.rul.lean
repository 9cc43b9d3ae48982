/-! NarrowSolver$Rule's constructor -/
section RCT
variable {d : Nat} {Q : Option Value → ah_H → Prop}
/-- a new Numbers -/
theorem new_num {H : ah_H} {n a : Nat} (h21 : H.2.1 = a) (hn : n ≤ 65536) : ∃ Y, (∀ Q, ae_wm d mX1_init [.ref a, .int (nI n)] (ah_new H (.inr (1, [.null, .int (nI 0)])) 2) Q = Q none Y) ∧ nmb Y a n (fun _ => 0) 0 ∧ (∀ b, b < a → Y.1 b = H.1 b) ∧ Y.2 = (a + 2, H.2.2.1 + 2 + n, H.2.2.2) := by
  have e1 : (ah_new H (.inr (1, [.null, .int (nI 0)])) 2).2.1 = a + 1 := by rw [hn_21, h21]
  have g := fun Q => m_X1_init (d := d) (Q := Q) (h := ah_new H (.inr (1, [.null, .int (nI 0)])) 2) (q := a) (n := n) (by rw [← h21]; exact hn_eq rfl) hn (by omega)
  refine ⟨_, g, ⟨?_, ?_⟩, fun b hb => ?_, ?_⟩
  · rw [hs_eq rfl, e1]
  · rw [hs_ne (by omega)]
    exact hn_eq e1.symm
  · rw [hs_ne (by omega), hn_ne (by omega), hn_ne (by omega)]
  · show (_ + 1, _ + n, _) = _
    rw [e1]
    rfl
theorem m_X4_init {H : ah_H} {a o l : Nat} {tp : List Nat} {g : Nat → Int32} (ha : H.1 a = some (.inr (4, [.null, .null]))) (h21 : H.2.1 = a + 1) (ho : nmb H o 120 g tp.length) (hr : rowl tp g) (htl : tp.length ≤ 120) (hl : l ≤ tp.length) (hoa : o + 1 < a) : ∃ H2, (∀ Q, ae_wm (d + 2) mX4_init [.ref a, .ref o, .int (nI l)] H Q = Q none H2) ∧ H2.1 a = some (.inr (4, [.ref (a + 1), .ref (a + 3)])) ∧ (∃ g, nmb H2 (a + 1) l g l ∧ rowl (tp.take l) g) ∧ (∃ g, nmb H2 (a + 3) (tp.length - l) g (tp.length - l) ∧ rowl (tp.drop l) g) ∧ (∀ b, b < a → H2.1 b = H.1 b) ∧ H2.2 = (a + 5, H.2.2.1 + 4 + tp.length, H.2.2.2) := by
  obtain ⟨Y, y1, y2, y3, y4⟩ := new_num (d := d + 1) (H := H) (n := l) h21 (by omega)
  have ya : Y.1 a = some (.inr (4, [.null, .null])) := by rw [y3 a (by omega)]; exact ha
  have yo : nmb Y o 120 g tp.length := ⟨by rw [y3 _ (by omega)]; exact ho.1, by rw [y3 _ (by omega)]; exact ho.2⟩
  have op1 : ∀ v K, ae_pw Y a 4 0 v K = K (ah_set Y a (.inr (4, [v, .null]))) := fun v K => by unfold ae_pw; rw [ya]; rfl
  have y21 : Y.2.1 = a + 3 := by rw [y4]
  obtain ⟨Z, z1, z2, z3, z4⟩ := new_num (d := d + 1) (H := ah_set Y a (.inr (4, [.ref (a + 1), .null]))) (n := tp.length - l) (a := a + 3) y21 (by omega)
  have zb : ∀ b, b < a + 3 → b ≠ a → Z.1 b = Y.1 b := fun b h1 h2 => by rw [z3 b h1, hs_ne h2]
  have za : Z.1 a = some (.inr (4, [.ref (a + 1), .null])) := by rw [z3 a (by omega)]; exact hs_eq rfl
  have zo : nmb Z o 120 g tp.length := ⟨by rw [zb _ (by omega) (by omega)]; exact yo.1, by rw [zb _ (by omega) (by omega)]; exact yo.2⟩
  have op2 : ∀ v K, ae_pw Z a 4 1 v K = K (ah_set Z a (.inr (4, [.ref (a + 1), v]))) := fun v K => by unfold ae_pw; rw [za]; rfl
  have w1 : nmb (ah_set Z a (.inr (4, [.ref (a + 1), .ref (a + 3)]))) (a + 1) l (fun _ => 0) 0 := ⟨by rw [hs_ne (by omega), zb _ (by omega) (by omega)]; exact y2.1, by rw [hs_ne (by omega), zb _ (by omega) (by omega)]; exact y2.2⟩
  have w2 : nmb (ah_set Z a (.inr (4, [.ref (a + 1), .ref (a + 3)]))) (a + 3) (tp.length - l) (fun _ => 0) 0 := ⟨by rw [hs_ne (by omega)]; exact z2.1, by rw [hs_ne (by omega)]; exact z2.2⟩
  have wo : nmb (ah_set Z a (.inr (4, [.ref (a + 1), .ref (a + 3)]))) o 120 g tp.length := ⟨by rw [hs_ne (by omega)]; exact zo.1, by rw [hs_ne (by omega)]; exact zo.2⟩
  have wa : (ah_set Z a (.inr (4, [.ref (a + 1), .ref (a + 3)]))).1 a = some (.inr (4, [.ref (a + 1), .ref (a + 3)])) := hs_eq rfl
  have wb : ∀ b, b < a → (ah_set Z a (.inr (4, [.ref (a + 1), .ref (a + 3)]))).1 b = H.1 b := fun b hb => by rw [hs_ne (by omega), zb b (by omega) (by omega), y3 b (by omega)]
  have w22 : (ah_set Z a (.inr (4, [.ref (a + 1), .ref (a + 3)]))).2 = (a + 5, H.2.2.1 + 4 + tp.length, H.2.2.2) := by
    show Z.2 = _
    rw [z4]
    show (_, Y.2.2.1 + 2 + _, Y.2.2.2) = _
    rw [y4]
    show (a + 3 + 2, H.2.2.1 + 2 + l + 2 + (tp.length - l), H.2.2.2) = _
    rw [show H.2.2.1 + 2 + l + 2 + (tp.length - l) = H.2.2.1 + 4 + tp.length by omega]
  generalize hW : ah_set Z a (.inr (4, [.ref (a + 1), .ref (a + 3)])) = W at w1 w2 wo wa wb w22
  have d0 : ∀ n, drn n (fun _ => (0 : Int32)) 0 [] := fun n => ⟨Nat.le_refl _, fun _ => ⟨rfl, fun i hi => absurd hi (Nat.not_lt_zero _)⟩, fun h => absurd h (Nat.not_lt_zero _)⟩
  obtain ⟨f1, s1, p1, p2, p3⟩ := m_X1_putAll (d := d) w1 (by omega) (by omega) wo (by omega) hr htl (by omega) (i := 0) (j := l) (by omega) hl
  have q1 := p2 [] (d0 l)
  have hs1 : ([] ++ sl tp 0 l : List Nat) = tp.take l := by simp [sl]
  rw [hs1] at q1
  have hl1 : (tp.take l).length = l := by rw [List.length_take]; omega
  obtain ⟨-, q2, -⟩ := q1
  obtain ⟨q3, q4⟩ := q2 (by omega)
  rw [hl1] at q3
  subst q3
  have n2 : nmb (nset W (a + 1) s1 f1 s1) (a + 3) (tp.length - s1) (fun _ => 0) 0 := ⟨by rw [nset_ne (by omega)]; exact w2.1, by rw [nset_ne (by omega)]; exact w2.2⟩
  have no : nmb (nset W (a + 1) s1 f1 s1) o 120 g tp.length := ⟨by rw [nset_ne (by omega)]; exact wo.1, by rw [nset_ne (by omega)]; exact wo.2⟩
  have na : (nset W (a + 1) s1 f1 s1).1 a = some (.inr (4, [.ref (a + 1), .ref (a + 3)])) := by rw [nset_ne (by omega)]; exact wa
  have nb1 : nmb (nset W (a + 1) s1 f1 s1) (a + 1) s1 f1 s1 := nset_nmb _ _ _ _ _
  have nb : ∀ b, b < a → (nset W (a + 1) s1 f1 s1).1 b = H.1 b := fun b hb => by rw [nset_ne (by omega)]; exact wb b hb
  have n22 : (nset W (a + 1) s1 f1 s1).2 = W.2 := rfl
  generalize hV : nset W (a + 1) s1 f1 s1 = V at p1 n2 no na nb1 nb n22
  obtain ⟨f2, s2, r1, r2, r3⟩ := m_X1_putAll (d := d) n2 (by omega) (by omega) no (by omega) hr htl (by omega) (i := s1) (j := tp.length) (by omega) (Nat.le_refl _)
  have u1 := r2 [] (d0 _)
  have hs2 : ([] ++ sl tp s1 tp.length : List Nat) = tp.drop s1 := by
    simp only [sl, List.nil_append]
    exact List.take_of_length_le (by rw [List.length_drop]; omega)
  rw [hs2] at u1
  have hl2 : (tp.drop s1).length = tp.length - s1 := List.length_drop
  obtain ⟨-, u2, -⟩ := u1
  obtain ⟨u3, u4⟩ := u2 (by omega)
  rw [hl2] at u3
  subst u3
  refine ⟨nset V (a + 3) (tp.length - s1) f2 (tp.length - s1), fun Q => ?_, by rw [nset_ne (by omega)]; exact na, ⟨f1, ⟨by rw [nset_ne (by omega)]; exact nb1.1, by rw [nset_ne (by omega)]; exact nb1.2⟩, q4⟩, ⟨f2, nset_nmb _ _ _ _ _, u4⟩, fun b hb => by rw [nset_ne (by omega)]; exact nb b hb, ?_⟩
  · have o1 : ∀ K, ae_gw Z o 1 1 K = K (.int (nI tp.length)) := fun K => by unfold ae_gw; rw [zo.1]; rfl
    have oN : ∀ K, ae_gw (ah_new (ah_set Y a (.inr (4, [.ref (a + 1), .null]))) (.inr (1, [.null, .int (nI 0)])) 2) o 1 1 K = K (.int (nI tp.length)) := fun K => by unfold ae_gw; rw [hn_ne (by show o ≠ Y.2.1; omega), hs_ne (by omega), yo.1]; rfl
    have o2 : ∀ K, ae_gw W a 4 0 K = K (.ref (a + 1)) := fun K => by unfold ae_gw; rw [wa]; rfl
    have o3 : ∀ K, ae_gw V a 4 1 K = K (.ref (a + 3)) := fun K => by unfold ae_gw; rw [na]; rfl
    have o4 : ∀ K, ae_gw V o 1 1 K = K (.int (nI tp.length)) := fun K => by unfold ae_gw; rw [no.1]; rfl
    have e3 : (ah_set Y a (.inr (4, [.ref (a + 1), .null]))).2.1 = a + 3 := y21
    have w11 := w1.1
    have n21 := n2.1
    simp (disch := first | exact ae_isR_ref _ | exact ae_isR_null | exact ae_isR_rf _ | exact ae_cat_ref _ | exact ae_cat_int _ | exact ae_cat_null | exact ae_cat_rf _ | exact ae_nz0 | exact ae_nz1 | exact ae_fz0 | exact ae_fz1 | exact cI_na (by omega) | exact cI_ix (by omega) | exact cI_nn (by omega) | exact cI_nz (by omega) | exact cI_cp (by omega) | assumption | omega) only [s_X4_init_0, s_X4_init_1, s_X4_init_4, s_X4_init_5, s_X4_init_8, s_X4_init_9, s_X4_init_10, s_X4_init_13, s_X4_init_16, s_X4_init_17, s_X4_init_20, s_X4_init_21, s_X4_init_22, s_X4_init_25, s_X4_init_26, s_X4_init_27, s_X4_init_30, s_X4_init_33, s_X4_init_34, s_X4_init_37, s_X4_init_38, s_X4_init_39, s_X4_init_40 w11, s_X4_init_43, s_X4_init_44, s_X4_init_47, s_X4_init_48, s_X4_init_49, s_X4_init_50, s_X4_init_53 n21, s_X4_init_56, e_X4_init, h21, y1, op1, e3, oN, z1, op2, hW, o2, p1, o3, o4, r1, og_0, og_1, og_2, og_3, og_4, og_5, og_6, og_7, og_8, og_9, og_10, og_11, og_12, op_6, op_8, op_9, op_10, op_11, op_12, dg_0, dg_1, dg_2, dg_3, dp_1, dp_2, dp_3, ng_b, ng_d, mz_m, ms_m, ov_2, nset_d, nset_b, uI_1, uI_2, uR_1, uR_21, uR_22, va_rf, Bool.false_eq_true, ae_Ki, ae_Kb, ae_Kj, ae_Ka, ae_Si, ae_Sb, ae_Sj, ae_Sn, List.getElem?_cons_succ, List.getElem?_cons_zero, ↓reduceIte, if_true, if_false, nI_ofNat, true_or, or_true, false_or, or_false, true_and, and_true, false_and, and_false, or_self, and_self, not_true_eq_false, not_false_eq_true, eq_self, List.length_cons, List.length_nil, Nat.reduceAdd, Nat.reduceLT, Nat.reduceSub, List.set_cons_succ, List.set_cons_zero, Option.toList, List.nil_append, List.cons_append, cI_ltT, cI_ltF, cI_leT, cI_leF, cI_eqT, cI_eqF, cI_cl, cN_leT, cN_leF, cN_ltT, cN_ltF, cN_eqT, cN_eqF, cI_add, cI_sub, cI_m1a, cI_m1b, cI_m1c, cI_m1d, cI_m1e, cI_m1f]
  · show V.2 = _
    rw [n22]; exact w22
theorem m_X5_ro_loop {E : Nat → Prop} {G : ah_H} {x ns f : Nat} {A : Nat → Nat} {rl : mR} {v1 v2 v3 : Value} (hns : ns ≤ 24) (hg : rgo ns A rl) (hl : 0 < rl.length) (h6 : G.1 (x + 6) = some (.inr (5, [.ref (x + 7), v1, v2, v3, .int (nI (rl.length - 1))]))) (hk : lsk E G x rl) (hf : f < 1000) : ∀ (m i : Nat) (T : Int64), i + m = rl.length → ae_wp (d + 1) mX5_rulesOf 5 [some (.ref (x + 6)), some (.int (nI f)), some (.long T), none, some (.int (nI i))] [] G Q = Q (some (.long (orF (fun r => decide ((rat rl r).1.getD 0 0 = f)) m i T))) G := by
  obtain ⟨lf, h7, h8⟩ := hk
  have h40 := hg.1
  have o4 : ∀ K, ae_gw G (x + 6) 5 4 K = K (.int (nI (rl.length - 1))) := fun K => by unfold ae_gw; rw [h6]; rfl
  have o0 : ∀ K, ae_gw G (x + 6) 5 0 K = K (.ref (x + 7)) := fun K => by unfold ae_gw; rw [h6]; rfl
  have o7 : ∀ K, ae_zw G (x + 7) K = K 3 (40, .inr (.inr (.inr (.inr lf)))) := fun K => zw_of h7
  intro m
  induction m with
  | zero =>
    intro i T hi
    simp (disch := first | exact ae_isR_ref _ | exact ae_isR_null | exact ae_isR_rf _ | exact ae_cat_ref _ | exact ae_cat_int _ | exact ae_cat_null | exact ae_cat_rf _ | exact ae_nz0 | exact ae_nz1 | exact ae_fz0 | exact ae_fz1 | exact cI_na (by omega) | exact cI_ix (by omega) | exact cI_nn (by omega) | exact cI_nz (by omega) | exact cI_cp (by omega) | assumption | omega) only [s_X5_rulesOf_5, s_X5_rulesOf_7, s_X5_rulesOf_8, s_X5_rulesOf_11, s_X5_rulesOf_65, s_X5_rulesOf_66, og_0, og_1, og_2, og_3, og_4, og_5, og_6, og_7, og_8, og_9, og_10, og_11, og_12, op_6, op_8, op_9, op_10, op_11, op_12, dg_0, dg_1, dg_2, dg_3, dp_1, dp_2, dp_3, ng_b, ng_d, mz_m, ms_m, ov_2, nset_d, nset_b, uI_1, uI_2, uR_1, uR_21, uR_22, va_rf, Bool.false_eq_true, ae_Ki, ae_Kb, ae_Kj, ae_Ka, ae_Si, ae_Sb, ae_Sj, ae_Sn, List.getElem?_cons_succ, List.getElem?_cons_zero, ↓reduceIte, if_true, if_false, nI_ofNat, true_or, or_true, false_or, or_false, true_and, and_true, false_and, and_false, or_self, and_self, not_true_eq_false, not_false_eq_true, eq_self, List.length_cons, List.length_nil, Nat.reduceAdd, Nat.reduceLT, Nat.reduceSub, List.set_cons_succ, List.set_cons_zero, Option.toList, List.nil_append, List.cons_append, cI_ltT, cI_ltF, cI_leT, cI_leF, cI_eqT, cI_eqF, cI_cl, cN_leT, cN_leF, cN_ltT, cN_ltF, cN_eqT, cN_eqF, cI_add, cI_sub, cI_m1a, cI_m1b, cI_m1c, cI_m1d, cI_m1e, cI_m1f, o4, o0, o7, orF]
  | succ m ih =>
    intro i T hi
    obtain ⟨a, a1, a2⟩ := h8 i (by omega)
    obtain ⟨-, -, -, -, -, b1, ⟨g, b2, b3⟩, -⟩ := a2
    obtain ⟨c1, c2, c3, c4, c5⟩ := lft_rn hns hg (show i < rl.length by omega)
    have hlen := rn_len _ _ _ c1
    have e0 : (lft rl i).getD 0 0 = (rat rl i).1.getD 0 0 := by
      rw [c2, List.getD_eq_getElem?_getD, List.getD_eq_getElem?_getD, List.getElem?_append_left (by omega)]
    have hv := c5 0 (by omega)
    have gA := fun Q => m_X1_at (d := d) (Q := Q) (i := 0) b2 (by omega) (by omega) (by omega)
    rw [if_pos ⟨by omega, by omega⟩, b3 0 (by omega), e0] at gA
    rw [e0] at hv
    have oL : ∀ K, ae_gw G a 4 0 K = K (.ref (a + 1)) := fun K => by unfold ae_gw; rw [b1]; rfl
    have b21 := b2.1
    rw [orF]
    by_cases c : (rat rl i).1.getD 0 0 = f
    · rw [decide_eq_true c, if_pos rfl]
      rw [c] at gA
      refine Eq.trans ?_ (s_X5_rulesOf_62.trans (ih (i + 1) (T ||| msk i) (by omega)))
      simp (disch := first | exact ae_isR_ref _ | exact ae_isR_null | exact ae_isR_rf _ | exact ae_cat_ref _ | exact ae_cat_int _ | exact ae_cat_null | exact ae_cat_rf _ | exact ae_nz0 | exact ae_nz1 | exact ae_fz0 | exact ae_fz1 | exact cI_na (by omega) | exact cI_ix (by omega) | exact cI_nn (by omega) | exact cI_nz (by omega) | exact cI_cp (by omega) | assumption | omega) only [s_X5_rulesOf_5, s_X5_rulesOf_7, s_X5_rulesOf_8, s_X5_rulesOf_11, s_X5_rulesOf_14, s_X5_rulesOf_16, s_X5_rulesOf_17, s_X5_rulesOf_20, s_X5_rulesOf_21, s_X5_rulesOf_24, s_X5_rulesOf_25, s_X5_rulesOf_28, s_X5_rulesOf_30, s_X5_rulesOf_31_N, s_X5_rulesOf_31, s_X5_rulesOf_34, s_X5_rulesOf_35, s_X5_rulesOf_38, s_X5_rulesOf_40, s_X5_rulesOf_41, s_X5_rulesOf_44, s_X5_rulesOf_45 b21, s_X5_rulesOf_48, s_X5_rulesOf_49, s_X5_rulesOf_52, s_X5_rulesOf_53, s_X5_rulesOf_54, s_X5_rulesOf_56, s_X5_rulesOf_57, s_X5_rulesOf_58, s_X5_rulesOf_59, og_0, og_1, og_2, og_3, og_4, og_5, og_6, og_7, og_8, og_9, og_10, og_11, og_12, op_6, op_8, op_9, op_10, op_11, op_12, dg_0, dg_1, dg_2, dg_3, dp_1, dp_2, dp_3, ng_b, ng_d, mz_m, ms_m, ov_2, nset_d, nset_b, uI_1, uI_2, uR_1, uR_21, uR_22, va_rf, Bool.false_eq_true, ae_Ki, ae_Kb, ae_Kj, ae_Ka, ae_Si, ae_Sb, ae_Sj, ae_Sn, List.getElem?_cons_succ, List.getElem?_cons_zero, ↓reduceIte, if_true, if_false, nI_ofNat, true_or, or_true, false_or, or_false, true_and, and_true, false_and, and_false, or_self, and_self, not_true_eq_false, not_false_eq_true, eq_self, List.length_cons, List.length_nil, Nat.reduceAdd, Nat.reduceLT, Nat.reduceSub, List.set_cons_succ, List.set_cons_zero, Option.toList, List.nil_append, List.cons_append, cI_ltT, cI_ltF, cI_leT, cI_leF, cI_eqT, cI_eqF, cI_cl, cN_leT, cN_leF, cN_ltT, cN_ltF, cN_eqT, cN_eqF, cI_add, cI_sub, cI_m1a, cI_m1b, cI_m1c, cI_m1d, cI_m1e, cI_m1f, o4, o0, o7, a1, oL, gA, msk]
    · rw [decide_eq_false c, if_neg Bool.false_ne_true]
      refine Eq.trans ?_ (s_X5_rulesOf_62.trans (ih (i + 1) T (by omega)))
      generalize (rat rl i).1.getD 0 0 = w at gA c hv
      simp (disch := first | exact ae_isR_ref _ | exact ae_isR_null | exact ae_isR_rf _ | exact ae_cat_ref _ | exact ae_cat_int _ | exact ae_cat_null | exact ae_cat_rf _ | exact ae_nz0 | exact ae_nz1 | exact ae_fz0 | exact ae_fz1 | exact cI_na (by omega) | exact cI_ix (by omega) | exact cI_nn (by omega) | exact cI_nz (by omega) | exact cI_cp (by omega) | assumption | omega) only [s_X5_rulesOf_5, s_X5_rulesOf_7, s_X5_rulesOf_8, s_X5_rulesOf_11, s_X5_rulesOf_14, s_X5_rulesOf_16, s_X5_rulesOf_17, s_X5_rulesOf_20, s_X5_rulesOf_21, s_X5_rulesOf_24, s_X5_rulesOf_25, s_X5_rulesOf_28, s_X5_rulesOf_30, s_X5_rulesOf_31_N, s_X5_rulesOf_31, s_X5_rulesOf_34, s_X5_rulesOf_35, s_X5_rulesOf_38, s_X5_rulesOf_40, s_X5_rulesOf_41, s_X5_rulesOf_44, s_X5_rulesOf_45 b21, s_X5_rulesOf_48, s_X5_rulesOf_49, s_X5_rulesOf_52, s_X5_rulesOf_53, s_X5_rulesOf_54, s_X5_rulesOf_56, s_X5_rulesOf_57, s_X5_rulesOf_58, s_X5_rulesOf_59, og_0, og_1, og_2, og_3, og_4, og_5, og_6, og_7, og_8, og_9, og_10, og_11, og_12, op_6, op_8, op_9, op_10, op_11, op_12, dg_0, dg_1, dg_2, dg_3, dp_1, dp_2, dp_3, ng_b, ng_d, mz_m, ms_m, ov_2, nset_d, nset_b, uI_1, uI_2, uR_1, uR_21, uR_22, va_rf, Bool.false_eq_true, ae_Ki, ae_Kb, ae_Kj, ae_Ka, ae_Si, ae_Sb, ae_Sj, ae_Sn, List.getElem?_cons_succ, List.getElem?_cons_zero, ↓reduceIte, if_true, if_false, nI_ofNat, true_or, or_true, false_or, or_false, true_and, and_true, false_and, and_false, or_self, and_self, not_true_eq_false, not_false_eq_true, eq_self, List.length_cons, List.length_nil, Nat.reduceAdd, Nat.reduceLT, Nat.reduceSub, List.set_cons_succ, List.set_cons_zero, Option.toList, List.nil_append, List.cons_append, cI_ltT, cI_ltF, cI_leT, cI_leF, cI_eqT, cI_eqF, cI_cl, cN_leT, cN_leF, cN_ltT, cN_ltF, cN_eqT, cN_eqF, cI_add, cI_sub, cI_m1a, cI_m1b, cI_m1c, cI_m1d, cI_m1e, cI_m1f, o4, o0, o7, a1, oL, gA]
theorem m_X5_rulesOf {E : Nat → Prop} {G : ah_H} {x ns f : Nat} {A : Nat → Nat} {rl : mR} {v1 v2 v3 : Value} (hns : ns ≤ 24) (hg : rgo ns A rl) (hl : 0 < rl.length) (h6 : G.1 (x + 6) = some (.inr (5, [.ref (x + 7), v1, v2, v3, .int (nI (rl.length - 1))]))) (hk : lsk E G x rl) (hf : f < 1000) : ae_wm (d + 1) mX5_rulesOf [.ref (x + 6), .int (nI f)] G Q = Q (some (.long (rof rl f))) G := by
  have g := m_X5_ro_loop (d := d) (Q := Q) hns hg hl h6 hk hf rl.length 0 0 (by omega)
  simp (disch := first | exact ae_isR_ref _ | exact ae_isR_null | exact ae_isR_rf _ | exact ae_cat_ref _ | exact ae_cat_int _ | exact ae_cat_null | exact ae_cat_rf _ | exact ae_nz0 | exact ae_nz1 | exact ae_fz0 | exact ae_fz1 | exact cI_na (by omega) | exact cI_ix (by omega) | exact cI_nn (by omega) | exact cI_nz (by omega) | exact cI_cp (by omega) | assumption | omega) only [s_X5_rulesOf_0, s_X5_rulesOf_1, s_X5_rulesOf_2, s_X5_rulesOf_3, e_X5_rulesOf, g, rof]
theorem m_X8_init {H : ah_H} {t : Nat} {fe : Nat → Option Nat} (ht : H.1 t = some (.inr (8, [.null, .int (nI 0)]))) (h21 : H.2.1 = t + 1) (hea : H.1 H.2.2.2.1 = some (.inl (98, 0, .inr (.inr (.inr (.inr fe)))))) (hel : H.2.2.2.1 < t) : ∃ H2, (∀ Q, ae_wm (d + 4) mX8_init [.ref t] H Q = Q none H2) ∧ H2.1 t = some (.inr (8, [.ref (t + 1), .int (nI 0)])) ∧ al H2 (t + 1) H.2.2.2.1 0 0 fe ∧ (∀ b, b < t → H2.1 b = H.1 b) ∧ H2.2 = (t + 2, H.2.2.1 + 3, H.2.2.2) := by
  refine ⟨ah_set (ah_set (ah_new H (.inr (12, [.int (nI 0), .null, .int (nI 0)])) 3) (t + 1) (.inr (12, [.int (nI 0), .ref H.2.2.2.1, .int (nI 0)]))) t (.inr (8, [.ref (t + 1), .int (nI 0)])), fun Q => ?_, hs_eq rfl, ⟨⟨nI 0, ?_⟩, ?_, Nat.le_refl _, by omega⟩, fun b hb => ?_, ?_⟩
  · have e1 : (ah_new H (.inr (12, [.int (nI 0), .null, .int (nI 0)])) 3).1 (t + 1) = some (.inr (12, [.int (nI 0), .null, .int (nI 0)])) := hn_eq h21.symm
    have e2 : (ah_new H (.inr (12, [.int (nI 0), .null, .int (nI 0)])) 3).1 t = some (.inr (8, [.null, .int (nI 0)])) := by rw [hn_ne (by omega)]; exact ht
    have e3 : (ah_new H (.inr (12, [.int (nI 0), .null, .int (nI 0)])) 3).2.2.2 = H.2.2.2 := rfl
    generalize hX : ah_new H (.inr (12, [.int (nI 0), .null, .int (nI 0)])) 3 = X at e1 e2 e3
    have e5 : t ≠ t + 1 := by omega
    simp (disch := first | exact ae_isR_ref _ | exact ae_isR_null | exact ae_isR_rf _ | exact ae_cat_ref _ | exact ae_cat_int _ | exact ae_cat_null | exact ae_cat_rf _ | exact ae_nz0 | exact ae_nz1 | exact ae_fz0 | exact ae_fz1 | exact cI_na (by omega) | exact cI_ix (by omega) | exact cI_nn (by omega) | exact cI_nz (by omega) | exact cI_cp (by omega) | assumption | omega) only [s_X8_init_0, s_X8_init_1, s_X8_init_4, s_X8_init_5, s_X8_init_8, s_X8_init_9, s_X8_init_12, s_X8_init_15, e_X8_init, s_Jx4a65c_init_da8c8_0, s_Jx4a65c_init_da8c8_1, s_Jx4a65c_init_da8c8_4, s_Jx4a65c_init_da8c8_5, s_Jx4a65c_init_da8c8_8, s_Jx4a65c_init_da8c8_11, e_Jx4a65c_init_da8c8, s_Jxc12de_init_da8c8_0, s_Jxc12de_init_da8c8_1, s_Jxc12de_init_da8c8_4, s_Jxc12de_init_da8c8_5, s_Jxc12de_init_da8c8_6, s_Jxc12de_init_da8c8_9, e_Jxc12de_init_da8c8, s_Jxa1e45_init_da8c8_0, s_Jxa1e45_init_da8c8_1, s_Jxa1e45_init_da8c8_4, e_Jxa1e45_init_da8c8, Bool.false_eq_true, ae_gw, ae_pw, ae_zw, ae_Ki, ae_Kb, ae_Kj, ae_Ka, ae_Si, ae_Sb, ae_Sj, ae_Sn, List.getElem?_cons_succ, List.getElem?_cons_zero, ↓reduceIte, if_true, if_false, nI_ofNat, true_or, or_true, false_or, or_false, true_and, and_true, false_and, and_false, or_self, and_self, not_true_eq_false, not_false_eq_true, eq_self, List.length_cons, List.length_nil, Nat.reduceAdd, Nat.reduceLT, Nat.reduceSub, List.set_cons_succ, List.set_cons_zero, Option.toList, List.nil_append, List.cons_append, cI_ltT, cI_ltF, cI_leT, cI_leF, cI_eqT, cI_eqF, cI_cl, cN_leT, cN_leF, cN_ltT, cN_ltF, cN_eqT, cN_eqF, cI_add, cI_sub, cI_m1a, cI_m1b, cI_m1c, cI_m1d, cI_m1e, cI_m1f, hs_eq, hs_ne, hs_2, hs_hs, hn_eq, hn_ne, hn_21, hn_22, hn_23, h21, hX, e1, e2, e3]
  · rw [hs_ne (by omega)]; exact hs_eq rfl
  · rw [hs_ne (by omega), hs_ne (by omega), hn_ne (by omega)]; exact hea
  · rw [hs_ne (by omega), hs_ne (by omega), hn_ne (by omega)]
  · show (H.2.1 + 1, H.2.2.1 + 3, H.2.2.2) = _
    rw [h21]
end RCT
