/-! the class's constructors -/
section INI
variable {d : Nat} {Q : Option Value → ah_H → Prop}
/-- what is there stays, what is made follows -/
def nxt (H Y : ah_H) (a n k : Nat) : Prop := (∀ b, b < a → Y.1 b = H.1 b) ∧ Y.2 = (a + n, H.2.2.1 + k, H.2.2.2)
theorem nxt_set {H Y : ah_H} {a n k q : Nat} {cl : ah_C} (h : nxt H Y a n k) : (∀ b, b < a → b ≠ q → (ah_set Y q cl).1 b = H.1 b) ∧ (ah_set Y q cl).2 = (a + n, H.2.2.1 + k, H.2.2.2) := ⟨fun b h1 h2 => by rw [hs_ne h2, h.1 b h1], h.2⟩
theorem new_sym {H : ah_H} {a : Nat} (h21 : H.2.1 = a) : ∃ Y, (∀ Q, ae_wm d mX7_init [.ref a] (ah_new H (.inr (7, [.null, .null, .int (nI 0)])) 3) Q = Q none Y) ∧ sym Y a 0 (fun _ => 0) (fun _ => 0) ∧ nxt H Y a 3 51 := by
  have e1 : (ah_new H (.inr (7, [.null, .null, .int (nI 0)])) 3).2 = (a + 1, H.2.2.1 + 3, H.2.2.2) := by show (H.2.1 + 1, _, _) = _; rw [h21]
  have e2 : (ah_new H (.inr (7, [.null, .null, .int (nI 0)])) 3).1 a = some (.inr (7, [.null, .null, .int (nI 0)])) := hn_eq h21.symm
  have e3 : ∀ b, b < a → (ah_new H (.inr (7, [.null, .null, .int (nI 0)])) 3).1 b = H.1 b := fun b hb => hn_ne (by omega)
  generalize ah_new H (.inr (7, [.null, .null, .int (nI 0)])) 3 = X at e1 e2 e3
  have x21 : X.2.1 = a + 1 := by rw [e1]
  -- the first array
  have f2 : (ah_new X (.inl (0, 24, .inl (fun _ => 0))) 24).1 a = some (.inr (7, [.null, .null, .int (nI 0)])) := by rw [hn_ne (by omega)]; exact e2
  have op1 : ∀ v K, ae_pw (ah_new X (.inl (0, 24, .inl (fun _ => 0))) 24) a 7 0 v K = K (ah_set (ah_new X (.inl (0, 24, .inl (fun _ => 0))) 24) a (.inr (7, [v, .null, .int (nI 0)]))) := fun v K => by unfold ae_pw; rw [f2]; rfl
  generalize hZ : ah_set (ah_new X (.inl (0, 24, .inl (fun _ => 0))) 24) a (.inr (7, [.ref (a + 1), .null, .int (nI 0)])) = Z
  have z2 : Z.2 = (a + 2, H.2.2.1 + 3 + 24, H.2.2.2) := by rw [← hZ]; show (X.2.1 + 1, X.2.2.1 + 24, X.2.2.2) = _; rw [e1]
  have z21 : Z.2.1 = a + 2 := by rw [z2]
  have za : Z.1 a = some (.inr (7, [.ref (a + 1), .null, .int (nI 0)])) := by rw [← hZ]; exact hs_eq rfl
  have zb : Z.1 (a + 1) = some (.inl (0, 24, .inl (fun _ => 0))) := by rw [← hZ, hs_ne (by omega)]; exact hn_eq x21.symm
  have zl : ∀ b, b < a → Z.1 b = H.1 b := fun b hb => by rw [← hZ, hs_ne (by omega), hn_ne (by omega), e3 b hb]
  have f3 : (ah_new Z (.inl (1, 24, .inl (fun _ => 0))) 24).1 a = some (.inr (7, [.ref (a + 1), .null, .int (nI 0)])) := by rw [hn_ne (by omega)]; exact za
  have op2 : ∀ v K, ae_pw (ah_new Z (.inl (1, 24, .inl (fun _ => 0))) 24) a 7 1 v K = K (ah_set (ah_new Z (.inl (1, 24, .inl (fun _ => 0))) 24) a (.inr (7, [.ref (a + 1), v, .int (nI 0)]))) := fun v K => by unfold ae_pw; rw [f3]; rfl
  have hcl : (nI 24).toNatClampNeg = 24 := cI_cl (by omega)
  refine ⟨ah_set (ah_new Z (.inl (1, 24, .inl (fun _ => 0))) 24) a (.inr (7, [.ref (a + 1), .ref (a + 2), .int (nI 0)])), fun Q => ?_, ⟨hs_eq rfl, ?_, ?_⟩, fun b hb => ?_, ?_⟩
  · simp (disch := first | exact ae_isR_ref _ | exact ae_isR_null | exact ae_isR_rf _ | exact ae_cat_ref _ | exact ae_cat_int _ | exact ae_cat_null | exact ae_cat_rf _ | exact ae_nz0 | exact ae_nz1 | exact ae_fz0 | exact ae_fz1 | exact cI_na (by omega) | exact cI_ix (by omega) | exact cI_nn (by omega) | exact cI_nz (by omega) | exact cI_cp (by omega) | assumption | omega) only [s_X7_init_0, s_X7_init_1, s_X7_init_4, s_X7_init_5, s_X7_init_7, s_X7_init_9, s_X7_init_12, s_X7_init_13, s_X7_init_15, s_X7_init_17, s_X7_init_20, e_X7_init, og_0, og_1, og_2, og_3, og_4, og_5, og_6, og_7, og_8, og_9, og_10, og_11, og_12, op_6, op_8, op_9, op_10, op_11, op_12, dg_0, dg_1, dg_2, dg_3, dp_1, dp_2, dp_3, ng_b, ng_d, mz_m, ms_m, ov_2, nset_d, nset_b, uI_1, uI_2, uR_1, uR_21, uR_22, va_rf, Bool.false_eq_true, ae_Ki, ae_Kb, ae_Kj, ae_Ka, ae_Si, ae_Sb, ae_Sj, ae_Sn, List.getElem?_cons_succ, List.getElem?_cons_zero, ↓reduceIte, if_true, if_false, nI_ofNat, true_or, or_true, false_or, or_false, true_and, and_true, false_and, and_false, or_self, and_self, not_true_eq_false, not_false_eq_true, eq_self, List.length_cons, List.length_nil, Nat.reduceAdd, Nat.reduceLT, Nat.reduceSub, List.set_cons_succ, List.set_cons_zero, Option.toList, List.nil_append, List.cons_append, cI_ltT, cI_ltF, cI_leT, cI_leF, cI_eqT, cI_eqF, cI_cl, cN_leT, cN_leF, cN_ltT, cN_ltF, cN_eqT, cN_eqF, cI_add, cI_sub, cI_m1a, cI_m1b, cI_m1c, cI_m1d, cI_m1e, cI_m1f, hcl, x21, op1, hZ, z21, op2]
  · rw [hs_ne (by omega), hn_ne (by omega)]; exact zb
  · rw [hs_ne (by omega)]; exact hn_eq z21.symm
  · rw [hs_ne (by omega), hn_ne (by omega), zl b hb]
  · show (Z.2.1 + 1, Z.2.2.1 + 24, Z.2.2.2) = _
    rw [z2]
theorem new_row {H : ah_H} {a n : Nat} (h21 : H.2.1 = a) (hn : 0 < n ∧ n < 1000) : ∃ Y, (∀ Q, ae_wm d mX3_init [.ref a, .int (nI n)] (ah_new H (.inr (3, [.null, .int (nI 0), .int (nI 0)])) 3) Q = Q none Y) ∧ ring Y a n (fun _ => none) 0 0 ∧ nxt H Y a 2 (3 + n) := by
  have e1 : (ah_new H (.inr (3, [.null, .int (nI 0), .int (nI 0)])) 3).2 = (a + 1, H.2.2.1 + 3, H.2.2.2) := by show (H.2.1 + 1, _, _) = _; rw [h21]
  have e2 : (ah_new H (.inr (3, [.null, .int (nI 0), .int (nI 0)])) 3).1 a = some (.inr (3, [.null, .int (nI 0), .int (nI 0)])) := hn_eq h21.symm
  have e3 : ∀ b, b < a → (ah_new H (.inr (3, [.null, .int (nI 0), .int (nI 0)])) 3).1 b = H.1 b := fun b hb => hn_ne (by omega)
  generalize ah_new H (.inr (3, [.null, .int (nI 0), .int (nI 0)])) 3 = X at e1 e2 e3
  have x21 : X.2.1 = a + 1 := by rw [e1]
  have f2 : (ah_new X (.inl (5, n, .inr (.inr (.inr (.inr (fun _ => none)))))) n).1 a = some (.inr (3, [.null, .int (nI 0), .int (nI 0)])) := by rw [hn_ne (by omega)]; exact e2
  have op1 : ∀ v K, ae_pw (ah_new X (.inl (5, n, .inr (.inr (.inr (.inr (fun _ => none)))))) n) a 3 0 v K = K (ah_set (ah_new X (.inl (5, n, .inr (.inr (.inr (.inr (fun _ => none)))))) n) a (.inr (3, [v, .int (nI 0), .int (nI 0)]))) := fun v K => by unfold ae_pw; rw [f2]; rfl
  have hcl : (nI n).toNatClampNeg = n := cI_cl (by omega)
  refine ⟨ah_set (ah_new X (.inl (5, n, .inr (.inr (.inr (.inr (fun _ => none)))))) n) a (.inr (3, [.ref (a + 1), .int (nI 0), .int (nI 0)])), fun Q => ?_, ⟨hs_eq rfl, ?_⟩, fun b hb => ?_, ?_⟩
  · simp (disch := first | exact ae_isR_ref _ | exact ae_isR_null | exact ae_isR_rf _ | exact ae_cat_ref _ | exact ae_cat_int _ | exact ae_cat_null | exact ae_cat_rf _ | exact ae_nz0 | exact ae_nz1 | exact ae_fz0 | exact ae_fz1 | exact cI_na (by omega) | exact cI_ix (by omega) | exact cI_nn (by omega) | exact cI_nz (by omega) | exact cI_cp (by omega) | assumption | omega) only [s_X3_init_0, s_X3_init_1, s_X3_init_4, s_X3_init_5, s_X3_init_6, s_X3_init_9, s_X3_init_10, s_X3_init_13, s_X3_init_14, s_X3_init_17, s_X3_init_20, e_X3_init, og_0, og_1, og_2, og_3, og_4, og_5, og_6, og_7, og_8, og_9, og_10, og_11, og_12, op_6, op_8, op_9, op_10, op_11, op_12, dg_0, dg_1, dg_2, dg_3, dp_1, dp_2, dp_3, ng_b, ng_d, mz_m, ms_m, ov_2, nset_d, nset_b, uI_1, uI_2, uR_1, uR_21, uR_22, va_rf, Bool.false_eq_true, ae_Ki, ae_Kb, ae_Kj, ae_Ka, ae_Si, ae_Sb, ae_Sj, ae_Sn, List.getElem?_cons_succ, List.getElem?_cons_zero, ↓reduceIte, if_true, if_false, nI_ofNat, true_or, or_true, false_or, or_false, true_and, and_true, false_and, and_false, or_self, and_self, not_true_eq_false, not_false_eq_true, eq_self, List.length_cons, List.length_nil, Nat.reduceAdd, Nat.reduceLT, Nat.reduceSub, List.set_cons_succ, List.set_cons_zero, Option.toList, List.nil_append, List.cons_append, cI_ltT, cI_ltF, cI_leT, cI_leF, cI_eqT, cI_eqF, cI_cl, cN_leT, cN_leF, cN_ltT, cN_ltF, cN_eqT, cN_eqF, cI_add, cI_sub, cI_m1a, cI_m1b, cI_m1c, cI_m1d, cI_m1e, cI_m1f, hcl, x21, op1]
  · rw [hs_ne (by omega)]; exact hn_eq x21.symm
  · rw [hs_ne (by omega), hn_ne (by omega), e3 b hb]
  · show (X.2.1 + 1, X.2.2.1 + n, X.2.2.2) = _
    rw [e1, show H.2.2.1 + (3 + n) = H.2.2.1 + 3 + n by omega]
theorem new_mk {H : ah_H} {a s l : Nat} (h21 : H.2.1 = a) : ∃ Y, (∀ Q, ae_wm (d + 1) mX9_init [.ref a, .ref s, .ref l] (ah_new H (.inr (9, [.null, .null, .null, .null])) 4) Q = Q none Y) ∧ Y.1 a = some (.inr (9, [.ref s, .ref l, .ref (a + 1), .ref (a + 3)])) ∧ nmb Y (a + 1) 120 (fun _ => 0) 0 ∧ Y.1 (a + 3) = some (.inl (1, 120, .inl (fun _ => 0))) ∧ nxt H Y a 4 246 := by
  have e1 : (ah_new H (.inr (9, [.null, .null, .null, .null])) 4).2 = (a + 1, H.2.2.1 + 4, H.2.2.2) := by show (H.2.1 + 1, _, _) = _; rw [h21]
  have e2 : (ah_new H (.inr (9, [.null, .null, .null, .null])) 4).1 a = some (.inr (9, [.null, .null, .null, .null])) := hn_eq h21.symm
  have e3 : ∀ b, b < a → (ah_new H (.inr (9, [.null, .null, .null, .null])) 4).1 b = H.1 b := fun b hb => hn_ne (by omega)
  generalize ah_new H (.inr (9, [.null, .null, .null, .null])) 4 = X at e1 e2 e3
  have x21 : X.2.1 = a + 1 := by rw [e1]
  obtain ⟨Y, y1, y2, y3, y4⟩ := new_num (d := d) (H := X) (n := 120) x21 (by omega)
  have ya : Y.1 a = some (.inr (9, [.null, .null, .null, .null])) := by rw [y3 a (by omega)]; exact e2
  have op1 : ∀ v K, ae_pw Y a 9 2 v K = K (ah_set Y a (.inr (9, [.null, .null, v, .null]))) := fun v K => by unfold ae_pw; rw [ya]; rfl
  generalize hZ : ah_set Y a (.inr (9, [.null, .null, .ref (a + 1), .null])) = Z
  have z2 : Z.2 = (a + 3, H.2.2.1 + 126, H.2.2.2) := by rw [← hZ]; show Y.2 = _; rw [y4, e1]
  have z21 : Z.2.1 = a + 3 := by rw [z2]
  have za : Z.1 a = some (.inr (9, [.null, .null, .ref (a + 1), .null])) := by rw [← hZ]; exact hs_eq rfl
  have zl : ∀ b, b ≠ a → Z.1 b = Y.1 b := fun b hb => by rw [← hZ]; exact hs_ne hb
  have f3 : (ah_new Z (.inl (1, 120, .inl (fun _ => 0))) 120).1 a = some (.inr (9, [.null, .null, .ref (a + 1), .null])) := by rw [hn_ne (by omega)]; exact za
  have fb : ∀ b, b < a + 3 → (ah_new Z (.inl (1, 120, .inl (fun _ => 0))) 120).1 b = Z.1 b := fun b hb => hn_ne (by omega)
  have f4 : (ah_new Z (.inl (1, 120, .inl (fun _ => 0))) 120).1 (a + 3) = some (.inl (1, 120, .inl (fun _ => 0))) := hn_eq z21.symm
  have f5 : (ah_new Z (.inl (1, 120, .inl (fun _ => 0))) 120).2 = (a + 4, H.2.2.1 + 246, H.2.2.2) := by show (Z.2.1 + 1, Z.2.2.1 + 120, Z.2.2.2) = _; rw [z2]
  generalize hV : ah_new Z (.inl (1, 120, .inl (fun _ => 0))) 120 = V at f3 fb f4 f5
  have op2 : ∀ v K, ae_pw V a 9 3 v K = K (ah_set V a (.inr (9, [.null, .null, .ref (a + 1), v]))) := fun v K => by unfold ae_pw; rw [f3]; rfl
  have op3 : ∀ w v K, ae_pw (ah_set V a (.inr (9, [.null, .null, .ref (a + 1), w]))) a 9 0 v K = K (ah_set V a (.inr (9, [v, .null, .ref (a + 1), w]))) := fun w v K => by
    unfold ae_pw; rw [hs_eq rfl]; exact congrArg K (hs_hs _ _ _ _)
  have op4 : ∀ u w v K, ae_pw (ah_set V a (.inr (9, [u, .null, .ref (a + 1), w]))) a 9 1 v K = K (ah_set V a (.inr (9, [u, v, .ref (a + 1), w]))) := fun u w v K => by
    unfold ae_pw; rw [hs_eq rfl]; exact congrArg K (hs_hs _ _ _ _)
  have hcl : (nI 120).toNatClampNeg = 120 := cI_cl (by omega)
  refine ⟨ah_set V a (.inr (9, [.ref s, .ref l, .ref (a + 1), .ref (a + 3)])), fun Q => ?_, hs_eq rfl, ⟨?_, ?_⟩, ?_, fun b hb => ?_, f5⟩
  · simp (disch := first | exact ae_isR_ref _ | exact ae_isR_null | exact ae_isR_rf _ | exact ae_cat_ref _ | exact ae_cat_int _ | exact ae_cat_null | exact ae_cat_rf _ | exact ae_nz0 | exact ae_nz1 | exact ae_fz0 | exact ae_fz1 | exact cI_na (by omega) | exact cI_ix (by omega) | exact cI_nn (by omega) | exact cI_nz (by omega) | exact cI_cp (by omega) | assumption | omega) only [s_X9_init_0, s_X9_init_1, s_X9_init_4, s_X9_init_5, s_X9_init_8, s_X9_init_9, s_X9_init_11, s_X9_init_14, s_X9_init_17, s_X9_init_18, s_X9_init_20, s_X9_init_22, s_X9_init_25, s_X9_init_26, s_X9_init_27, s_X9_init_30, s_X9_init_31, s_X9_init_32, s_X9_init_35, e_X9_init, og_0, og_1, og_2, og_3, og_4, og_5, og_6, og_7, og_8, og_9, og_10, og_11, og_12, op_6, op_8, op_9, op_10, op_11, op_12, dg_0, dg_1, dg_2, dg_3, dp_1, dp_2, dp_3, ng_b, ng_d, mz_m, ms_m, ov_2, nset_d, nset_b, uI_1, uI_2, uR_1, uR_21, uR_22, va_rf, Bool.false_eq_true, ae_Ki, ae_Kb, ae_Kj, ae_Ka, ae_Si, ae_Sb, ae_Sj, ae_Sn, List.getElem?_cons_succ, List.getElem?_cons_zero, ↓reduceIte, if_true, if_false, nI_ofNat, true_or, or_true, false_or, or_false, true_and, and_true, false_and, and_false, or_self, and_self, not_true_eq_false, not_false_eq_true, eq_self, List.length_cons, List.length_nil, Nat.reduceAdd, Nat.reduceLT, Nat.reduceSub, List.set_cons_succ, List.set_cons_zero, Option.toList, List.nil_append, List.cons_append, cI_ltT, cI_ltF, cI_leT, cI_leF, cI_eqT, cI_eqF, cI_cl, cN_leT, cN_leF, cN_ltT, cN_ltF, cN_eqT, cN_eqF, cI_add, cI_sub, cI_m1a, cI_m1b, cI_m1c, cI_m1d, cI_m1e, cI_m1f, hcl, x21, y1, op1, hZ, z21, hV, op2, op3, op4]
  · rw [hs_ne (by omega), fb _ (by omega), zl _ (by omega)]; exact y2.1
  · rw [hs_ne (by omega), fb _ (by omega), zl _ (by omega)]; exact y2.2
  · rw [hs_ne (by omega)]; exact f4
  · rw [hs_ne (by omega), fb _ (by omega), zl _ (by omega), y3 _ (by omega), e3 b hb]
theorem new_prob {H : ah_H} {a : Nat} (h21 : H.2.1 = a) : ∃ Y, (∀ Q, ae_wm (d + 1) mX2_init [.ref a] (ah_new H (.inr (2, [.null, .int (nI 0), .int (nI 0), .int (nI 0)])) 4) Q = Q none Y) ∧ (Y.1 a = some (.inr (2, [.ref (a + 1), .int (nI 0), .int (nI 0), .int (nI 0)])) ∧ Y.1 (a + 1) = some (.inr (1, [.ref (a + 2), .int (nI 0)])) ∧ Y.1 (a + 2) = some (.inl (0, 300, .inl (fun _ => 0)))) ∧ nxt H Y a 3 306 := by
  have e1 : (ah_new H (.inr (2, [.null, .int (nI 0), .int (nI 0), .int (nI 0)])) 4).2 = (a + 1, H.2.2.1 + 4, H.2.2.2) := by show (H.2.1 + 1, _, _) = _; rw [h21]
  have e2 : (ah_new H (.inr (2, [.null, .int (nI 0), .int (nI 0), .int (nI 0)])) 4).1 a = some (.inr (2, [.null, .int (nI 0), .int (nI 0), .int (nI 0)])) := hn_eq h21.symm
  have e3 : ∀ b, b < a → (ah_new H (.inr (2, [.null, .int (nI 0), .int (nI 0), .int (nI 0)])) 4).1 b = H.1 b := fun b hb => hn_ne (by omega)
  generalize ah_new H (.inr (2, [.null, .int (nI 0), .int (nI 0), .int (nI 0)])) 4 = X at e1 e2 e3
  have x21 : X.2.1 = a + 1 := by rw [e1]
  obtain ⟨Y, y1, y2, y3, y4⟩ := new_num (d := d) (H := X) (n := 300) x21 (by omega)
  have ya : Y.1 a = some (.inr (2, [.null, .int (nI 0), .int (nI 0), .int (nI 0)])) := by rw [y3 a (by omega)]; exact e2
  have op1 : ∀ v K, ae_pw Y a 2 0 v K = K (ah_set Y a (.inr (2, [v, .int (nI 0), .int (nI 0), .int (nI 0)]))) := fun v K => by unfold ae_pw; rw [ya]; rfl
  refine ⟨ah_set Y a (.inr (2, [.ref (a + 1), .int (nI 0), .int (nI 0), .int (nI 0)])), fun Q => ?_, ⟨hs_eq rfl, ?_, ?_⟩, fun b hb => ?_, ?_⟩
  · simp (disch := first | exact ae_isR_ref _ | exact ae_isR_null | exact ae_isR_rf _ | exact ae_cat_ref _ | exact ae_cat_int _ | exact ae_cat_null | exact ae_cat_rf _ | exact ae_nz0 | exact ae_nz1 | exact ae_fz0 | exact ae_fz1 | exact cI_na (by omega) | exact cI_ix (by omega) | exact cI_nn (by omega) | exact cI_nz (by omega) | exact cI_cp (by omega) | assumption | omega) only [s_X2_init_0, s_X2_init_1, s_X2_init_4, s_X2_init_5, s_X2_init_8, s_X2_init_9, s_X2_init_12, s_X2_init_15, s_X2_init_18, e_X2_init, og_0, og_1, og_2, og_3, og_4, og_5, og_6, og_7, og_8, og_9, og_10, og_11, og_12, op_6, op_8, op_9, op_10, op_11, op_12, dg_0, dg_1, dg_2, dg_3, dp_1, dp_2, dp_3, ng_b, ng_d, mz_m, ms_m, ov_2, nset_d, nset_b, uI_1, uI_2, uR_1, uR_21, uR_22, va_rf, Bool.false_eq_true, ae_Ki, ae_Kb, ae_Kj, ae_Ka, ae_Si, ae_Sb, ae_Sj, ae_Sn, List.getElem?_cons_succ, List.getElem?_cons_zero, ↓reduceIte, if_true, if_false, nI_ofNat, true_or, or_true, false_or, or_false, true_and, and_true, false_and, and_false, or_self, and_self, not_true_eq_false, not_false_eq_true, eq_self, List.length_cons, List.length_nil, Nat.reduceAdd, Nat.reduceLT, Nat.reduceSub, List.set_cons_succ, List.set_cons_zero, Option.toList, List.nil_append, List.cons_append, cI_ltT, cI_ltF, cI_leT, cI_leF, cI_eqT, cI_eqF, cI_cl, cN_leT, cN_leF, cN_ltT, cN_ltF, cN_eqT, cN_eqF, cI_add, cI_sub, cI_m1a, cI_m1b, cI_m1c, cI_m1d, cI_m1e, cI_m1f, x21, y1, op1]
  · rw [hs_ne (by omega)]; exact y2.1
  · rw [hs_ne (by omega)]; exact y2.2
  · rw [hs_ne (by omega), y3 _ (by omega), e3 b hb]
  · show Y.2 = _
    rw [y4, e1]
theorem new_rules {H : ah_H} {a s : Nat} {fe : Nat → Option Nat} (h21 : H.2.1 = a) (hea : H.1 H.2.2.2.1 = some (.inl (98, 0, .inr (.inr (.inr (.inr fe)))))) (hel : H.2.2.2.1 < a) : ∃ Y, (∀ Q, ae_wm (d + 5) mX5_init [.ref a, .ref s] (ah_new H (.inr (5, [.null, .null, .null, .null, .int (nI 0)])) 5) Q = Q none Y) ∧ Y.1 a = some (.inr (5, [.ref (a + 1), .ref (a + 2), .ref (a + 5), .ref (a + 3), .int (nI 0)])) ∧ Y.1 (a + 1) = some (.inl (3, 40, .inr (.inr (.inr (.inr (fun _ => none)))))) ∧ Y.1 (a + 2) = some (.inl (4, 24, .inr (.inr (.inr (.inr (fun _ => none)))))) ∧ (Y.1 (a + 3) = some (.inr (8, [.ref (a + 4), .int (nI 0)])) ∧ al Y (a + 4) H.2.2.2.1 0 0 fe) ∧ Y.1 (a + 5) = some (.inr (9, [.ref s, .ref (a + 1), .ref (a + 6), .ref (a + 8)])) ∧ nmb Y (a + 6) 120 (fun _ => 0) 0 ∧ Y.1 (a + 8) = some (.inl (1, 120, .inl (fun _ => 0))) ∧ nxt H Y a 9 320 := by
  have e1 : (ah_new H (.inr (5, [.null, .null, .null, .null, .int (nI 0)])) 5).2 = (a + 1, H.2.2.1 + 5, H.2.2.2) := by show (H.2.1 + 1, _, _) = _; rw [h21]
  have e2 : (ah_new H (.inr (5, [.null, .null, .null, .null, .int (nI 0)])) 5).1 a = some (.inr (5, [.null, .null, .null, .null, .int (nI 0)])) := hn_eq h21.symm
  have e3 : ∀ b, b < a → (ah_new H (.inr (5, [.null, .null, .null, .null, .int (nI 0)])) 5).1 b = H.1 b := fun b hb => hn_ne (by omega)
  generalize ah_new H (.inr (5, [.null, .null, .null, .null, .int (nI 0)])) 5 = X at e1 e2 e3
  have x21 : X.2.1 = a + 1 := by rw [e1]
  have c40 : (nI 40).toNatClampNeg = 40 := cI_cl (by omega)
  have c24 : (nI 24).toNatClampNeg = 24 := cI_cl (by omega)
  -- list
  have f2 : (ah_new X (.inl (3, 40, .inr (.inr (.inr (.inr (fun _ => none)))))) 40).1 a = some (.inr (5, [.null, .null, .null, .null, .int (nI 0)])) := by rw [hn_ne (by omega)]; exact e2
  have op1 : ∀ v K, ae_pw (ah_new X (.inl (3, 40, .inr (.inr (.inr (.inr (fun _ => none)))))) 40) a 5 0 v K = K (ah_set (ah_new X (.inl (3, 40, .inr (.inr (.inr (.inr (fun _ => none)))))) 40) a (.inr (5, [v, .null, .null, .null, .int (nI 0)]))) := fun v K => by unfold ae_pw; rw [f2]; rfl
  generalize hZ : ah_set (ah_new X (.inl (3, 40, .inr (.inr (.inr (.inr (fun _ => none)))))) 40) a (.inr (5, [.ref (a + 1), .null, .null, .null, .int (nI 0)])) = Z
  have z2 : Z.2 = (a + 2, H.2.2.1 + 45, H.2.2.2) := by rw [← hZ]; show (X.2.1 + 1, X.2.2.1 + 40, X.2.2.2) = _; rw [e1]
  have z21 : Z.2.1 = a + 2 := by rw [z2]
  have za : Z.1 a = some (.inr (5, [.ref (a + 1), .null, .null, .null, .int (nI 0)])) := by rw [← hZ]; exact hs_eq rfl
  have z1 : Z.1 (a + 1) = some (.inl (3, 40, .inr (.inr (.inr (.inr (fun _ => none)))))) := by rw [← hZ, hs_ne (by omega)]; exact hn_eq x21.symm
  have zl : ∀ b, b < a → Z.1 b = H.1 b := fun b hb => by rw [← hZ, hs_ne (by omega), hn_ne (by omega), e3 b hb]
  -- trees
  have f3 : (ah_new Z (.inl (4, 24, .inr (.inr (.inr (.inr (fun _ => none)))))) 24).1 a = some (.inr (5, [.ref (a + 1), .null, .null, .null, .int (nI 0)])) := by rw [hn_ne (by omega)]; exact za
  have op2 : ∀ v K, ae_pw (ah_new Z (.inl (4, 24, .inr (.inr (.inr (.inr (fun _ => none)))))) 24) a 5 1 v K = K (ah_set (ah_new Z (.inl (4, 24, .inr (.inr (.inr (.inr (fun _ => none)))))) 24) a (.inr (5, [.ref (a + 1), v, .null, .null, .int (nI 0)]))) := fun v K => by unfold ae_pw; rw [f3]; rfl
  generalize hV : ah_set (ah_new Z (.inl (4, 24, .inr (.inr (.inr (.inr (fun _ => none)))))) 24) a (.inr (5, [.ref (a + 1), .ref (a + 2), .null, .null, .int (nI 0)])) = V
  have v2 : V.2 = (a + 3, H.2.2.1 + 69, H.2.2.2) := by rw [← hV]; show (Z.2.1 + 1, Z.2.2.1 + 24, Z.2.2.2) = _; rw [z2]
  have v21 : V.2.1 = a + 3 := by rw [v2]
  have va : V.1 a = some (.inr (5, [.ref (a + 1), .ref (a + 2), .null, .null, .int (nI 0)])) := by rw [← hV]; exact hs_eq rfl
  have v1 : V.1 (a + 1) = some (.inl (3, 40, .inr (.inr (.inr (.inr (fun _ => none)))))) := by rw [← hV, hs_ne (by omega), hn_ne (by omega)]; exact z1
  have vb : V.1 (a + 2) = some (.inl (4, 24, .inr (.inr (.inr (.inr (fun _ => none)))))) := by rw [← hV, hs_ne (by omega)]; exact hn_eq z21.symm
  have vl : ∀ b, b < a → V.1 b = H.1 b := fun b hb => by rw [← hV, hs_ne (by omega), hn_ne (by omega), zl b hb]
  -- the spare tree
  have w1 : (ah_new V (.inr (8, [.null, .int (nI 0)])) 2).1 (a + 3) = some (.inr (8, [.null, .int (nI 0)])) := hn_eq v21.symm
  have w2 : (ah_new V (.inr (8, [.null, .int (nI 0)])) 2).2 = (a + 4, H.2.2.1 + 71, H.2.2.2) := by show (V.2.1 + 1, V.2.2.1 + 2, V.2.2.2) = _; rw [v2]
  have w3 : ∀ b, b < a + 3 → (ah_new V (.inr (8, [.null, .int (nI 0)])) 2).1 b = V.1 b := fun b hb => hn_ne (by omega)
  have w4 : (ah_new V (.inr (8, [.null, .int (nI 0)])) 2).2.2.2.1 = H.2.2.2.1 := by rw [w2]
  obtain ⟨U, u1, u2, u3, u4, u5⟩ := m_X8_init (d := d) (t := a + 3) (fe := fe) w1 (by rw [w2]) (by rw [w4, w3 _ (by omega), vl _ hel]; exact hea) (by rw [w4]; omega)
  rw [w4] at u3
  rw [w2] at u5
  have ua : U.1 a = some (.inr (5, [.ref (a + 1), .ref (a + 2), .null, .null, .int (nI 0)])) := by rw [u4 _ (by omega), w3 _ (by omega)]; exact va
  have op3 : ∀ v K, ae_pw U a 5 3 v K = K (ah_set U a (.inr (5, [.ref (a + 1), .ref (a + 2), .null, v, .int (nI 0)]))) := fun v K => by unfold ae_pw; rw [ua]; rfl
  generalize hT : ah_set U a (.inr (5, [.ref (a + 1), .ref (a + 2), .null, .ref (a + 3), .int (nI 0)])) = T
  have t2 : T.2 = (a + 5, H.2.2.1 + 74, H.2.2.2) := by rw [← hT]; show U.2 = _; rw [u5]
  have t21 : T.2.1 = a + 5 := by rw [t2]
  have ta : T.1 a = some (.inr (5, [.ref (a + 1), .ref (a + 2), .null, .ref (a + 3), .int (nI 0)])) := by rw [← hT]; exact hs_eq rfl
  have tl : ∀ b, b ≠ a → T.1 b = U.1 b := fun b hb => by rw [← hT]; exact hs_ne hb
  -- the maker
  obtain ⟨M, m1, m2, m3, m4, m5, m6⟩ := new_mk (d := d + 3) (H := T) (a := a + 5) (s := s) (l := a + 1) t21
  have o0 : ∀ K, ae_gw (ah_new T (.inr (9, [.null, .null, .null, .null])) 4) a 5 0 K = K (.ref (a + 1)) := fun K => by unfold ae_gw; rw [hn_ne (by omega), ta]; rfl
  have ma : M.1 a = some (.inr (5, [.ref (a + 1), .ref (a + 2), .null, .ref (a + 3), .int (nI 0)])) := by rw [m5 _ (by omega)]; exact ta
  have op4 : ∀ v K, ae_pw M a 5 2 v K = K (ah_set M a (.inr (5, [.ref (a + 1), .ref (a + 2), v, .ref (a + 3), .int (nI 0)]))) := fun v K => by unfold ae_pw; rw [ma]; rfl
  have ml : ∀ b, b ≠ a → b < a + 5 → (ah_set M a (.inr (5, [.ref (a + 1), .ref (a + 2), .ref (a + 5), .ref (a + 3), .int (nI 0)]))).1 b = U.1 b := fun b h1 h2 => by rw [hs_ne h1, m5 b h2, tl b h1]
  have mh : ∀ b, b ≠ a → (ah_set M a (.inr (5, [.ref (a + 1), .ref (a + 2), .ref (a + 5), .ref (a + 3), .int (nI 0)]))).1 b = M.1 b := fun b h1 => hs_ne h1
  refine ⟨ah_set M a (.inr (5, [.ref (a + 1), .ref (a + 2), .ref (a + 5), .ref (a + 3), .int (nI 0)])), fun Q => ?_, hs_eq rfl, ?_, ?_, ⟨?_, ?_⟩, ?_, ⟨?_, ?_⟩, ?_, fun b hb => ?_, ?_⟩
  · simp (disch := first | exact ae_isR_ref _ | exact ae_isR_null | exact ae_isR_rf _ | exact ae_cat_ref _ | exact ae_cat_int _ | exact ae_cat_null | exact ae_cat_rf _ | exact ae_nz0 | exact ae_nz1 | exact ae_fz0 | exact ae_fz1 | exact cI_na (by omega) | exact cI_ix (by omega) | exact cI_nn (by omega) | exact cI_nz (by omega) | exact cI_cp (by omega) | assumption | omega) only [s_X5_init_0, s_X5_init_1, s_X5_init_4, s_X5_init_5, s_X5_init_7, s_X5_init_10, s_X5_init_13, s_X5_init_14, s_X5_init_16, s_X5_init_19, s_X5_init_22, s_X5_init_23, s_X5_init_26, s_X5_init_27, s_X5_init_30, s_X5_init_33, s_X5_init_34, s_X5_init_37, s_X5_init_38, s_X5_init_39, s_X5_init_40, s_X5_init_43, s_X5_init_46, s_X5_init_49, e_X5_init, og_0, og_1, og_2, og_3, og_4, og_5, og_6, og_7, og_8, og_9, og_10, og_11, og_12, op_6, op_8, op_9, op_10, op_11, op_12, dg_0, dg_1, dg_2, dg_3, dp_1, dp_2, dp_3, ng_b, ng_d, mz_m, ms_m, ov_2, nset_d, nset_b, uI_1, uI_2, uR_1, uR_21, uR_22, va_rf, Bool.false_eq_true, ae_Ki, ae_Kb, ae_Kj, ae_Ka, ae_Si, ae_Sb, ae_Sj, ae_Sn, List.getElem?_cons_succ, List.getElem?_cons_zero, ↓reduceIte, if_true, if_false, nI_ofNat, true_or, or_true, false_or, or_false, true_and, and_true, false_and, and_false, or_self, and_self, not_true_eq_false, not_false_eq_true, eq_self, List.length_cons, List.length_nil, Nat.reduceAdd, Nat.reduceLT, Nat.reduceSub, List.set_cons_succ, List.set_cons_zero, Option.toList, List.nil_append, List.cons_append, cI_ltT, cI_ltF, cI_leT, cI_leF, cI_eqT, cI_eqF, cI_cl, cN_leT, cN_leF, cN_ltT, cN_ltF, cN_eqT, cN_eqF, cI_add, cI_sub, cI_m1a, cI_m1b, cI_m1c, cI_m1d, cI_m1e, cI_m1f, c40, c24, x21, op1, hZ, z21, op2, hV, v21, u1, op3, hT, t21, o0, m1, op4]
  · rw [ml _ (by omega) (by omega), u4 _ (by omega), w3 _ (by omega)]; exact v1
  · rw [ml _ (by omega) (by omega), u4 _ (by omega), w3 _ (by omega)]; exact vb
  · rw [ml _ (by omega) (by omega)]; exact u2
  · obtain ⟨⟨mc, j1⟩, j2, j3⟩ := u3
    exact ⟨⟨mc, by rw [ml _ (by omega) (by omega)]; exact j1⟩, by rw [ml _ (by omega) (by omega)]; exact j2, j3⟩
  · rw [mh _ (by omega)]; exact m2
  · rw [mh _ (by omega)]; exact m3.1
  · rw [mh _ (by omega)]; exact m3.2
  · rw [mh _ (by omega)]; exact m4
  · rw [ml _ (by omega) (by omega), u4 _ (by omega), w3 _ (by omega), vl b hb]
  · show M.2 = _
    rw [m6, t2]
end INI
