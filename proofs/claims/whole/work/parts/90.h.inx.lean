/-! NarrowSolver's constructor; the class at its beginning -/
/-- the cells of a new NarrowSolver -/
def newC (Y : ah_H) (x ea : Nat) (fe : Nat → Option Nat) : Prop := fac Y x ∧ sym Y (x + 1) 0 (fun _ => 0) (fun _ => 0) ∧ nmb Y (x + 4) 120 (fun _ => 0) 0 ∧ (Y.1 (x + 6) = some (.inr (5, [.ref (x + 7), .ref (x + 8), .ref (x + 11), .ref (x + 9), .int (nI 0)])) ∧ Y.1 (x + 7) = some (.inl (3, 40, .inr (.inr (.inr (.inr (fun _ => none)))))) ∧ Y.1 (x + 8) = some (.inl (4, 24, .inr (.inr (.inr (.inr (fun _ => none)))))) ∧ (Y.1 (x + 9) = some (.inr (8, [.ref (x + 10), .int (nI 0)])) ∧ al Y (x + 10) ea 0 0 fe) ∧ tmk Y x ∧ nmb Y (x + 12) 120 (fun _ => 0) 0 ∧ Y.1 (x + 14) = some (.inl (1, 120, .inl (fun _ => 0)))) ∧ Y.1 (x + 15) = some (.inr (6, [.ref (x + 1), .ref (x + 6), .ref (x + 16), .ref (x + 18), .ref (x + 20), .ref (x + 22), .ref (x + 23), .ref (x + 26), .int (-1), .int (nI 0), .int (nI 0), .int (nI 0), .int (nI 0)])) ∧ ring Y (x + 16) 40 (fun _ => none) 0 0 ∧ ring Y (x + 18) 30 (fun _ => none) 0 0 ∧ nmb Y (x + 20) 4 (fun _ => 0) 0 ∧ Y.1 (x + 22) = some (.inl (0, 10, .inl (fun _ => 0))) ∧ (Y.1 (x + 23) = some (.inr (2, [.ref (x + 24), .int (nI 0), .int (nI 0), .int (nI 0)])) ∧ Y.1 (x + 24) = some (.inr (1, [.ref (x + 25), .int (nI 0)])) ∧ Y.1 (x + 25) = some (.inl (0, 300, .inl (fun _ => 0)))) ∧ (Y.1 (x + 26) = some (.inr (2, [.ref (x + 27), .int (nI 0), .int (nI 0), .int (nI 0)])) ∧ Y.1 (x + 27) = some (.inr (1, [.ref (x + 28), .int (nI 0)])) ∧ Y.1 (x + 28) = some (.inl (0, 300, .inl (fun _ => 0))))
theorem newC_cg {Y Z : ah_H} {x ea : Nat} {fe : Nat → Option Nat} (hc : ∀ a, x ≤ a → a ≤ x + 28 → Z.1 a = Y.1 a) (he : Z.1 ea = Y.1 ea) (h : newC Y x ea fe) : newC Z x ea fe := by
  obtain ⟨h1, ⟨h2, h3, h4⟩, ⟨h5, h6⟩, ⟨h7, h8, h9, ⟨h10, ⟨mc, h11⟩, h12, h13⟩, h14, ⟨h15, h16⟩, h17⟩, h18, ⟨h19, h20⟩, ⟨h21, h22⟩, ⟨h23, h24⟩, h25, ⟨h26, h27, h28⟩, h29, h30, h31⟩ := h
  refine ⟨?_, ⟨?_, ?_, ?_⟩, ⟨?_, ?_⟩, ⟨?_, ?_, ?_, ⟨?_, ⟨mc, ?_⟩, ?_, h13⟩, ?_, ⟨?_, ?_⟩, ?_⟩, ?_, ⟨?_, ?_⟩, ⟨?_, ?_⟩, ⟨?_, ?_⟩, ?_, ⟨?_, ?_, ?_⟩, ?_, ?_, ?_⟩
  · unfold fac; rw [hc _ (by omega) (by omega)]; exact h1
  · rw [hc _ (by omega) (by omega)]; exact h2
  · rw [hc _ (by omega) (by omega)]; exact h3
  · rw [hc _ (by omega) (by omega)]; exact h4
  · rw [hc _ (by omega) (by omega)]; exact h5
  · rw [hc _ (by omega) (by omega)]; exact h6
  · rw [hc _ (by omega) (by omega)]; exact h7
  · rw [hc _ (by omega) (by omega)]; exact h8
  · rw [hc _ (by omega) (by omega)]; exact h9
  · rw [hc _ (by omega) (by omega)]; exact h10
  · rw [hc _ (by omega) (by omega)]; exact h11
  · rw [he]; exact h12
  · unfold tmk; rw [hc _ (by omega) (by omega)]; exact h14
  · rw [hc _ (by omega) (by omega)]; exact h15
  · rw [hc _ (by omega) (by omega)]; exact h16
  · rw [hc _ (by omega) (by omega)]; exact h17
  · rw [hc _ (by omega) (by omega)]; exact h18
  · rw [hc _ (by omega) (by omega)]; exact h19
  · rw [hc _ (by omega) (by omega)]; exact h20
  · rw [hc _ (by omega) (by omega)]; exact h21
  · rw [hc _ (by omega) (by omega)]; exact h22
  · rw [hc _ (by omega) (by omega)]; exact h23
  · rw [hc _ (by omega) (by omega)]; exact h24
  · rw [hc _ (by omega) (by omega)]; exact h25
  · rw [hc _ (by omega) (by omega)]; exact h26
  · rw [hc _ (by omega) (by omega)]; exact h27
  · rw [hc _ (by omega) (by omega)]; exact h28
  · rw [hc _ (by omega) (by omega)]; exact h29
  · rw [hc _ (by omega) (by omega)]; exact h30
  · rw [hc _ (by omega) (by omega)]; exact h31
section INX
variable {d : Nat} {Q : Option Value → ah_H → Prop}
theorem m_X10_init {H : ah_H} {x : Nat} {fe : Nat → Option Nat} (hx : H.1 x = some (.inr (10, [.null, .null, .null, .null]))) (h21 : H.2.1 = x + 1) (hea : H.1 H.2.2.2.1 = some (.inl (98, 0, .inr (.inr (.inr (.inr fe)))))) (hel : H.2.2.2.1 < x) : ∃ Y, (∀ Q, ae_wm (d + 6) mX10_init [.ref x] H Q = Q none Y) ∧ newC Y x H.2.2.2.1 fe ∧ (∀ b, b < x → Y.1 b = H.1 b) ∧ Y.2 = (x + 29, H.2.2.1 + 1210, H.2.2.2) := by
  -- symbols
  obtain ⟨Y1, y1, s1, n1, q1⟩ := new_sym (d := d + 5) (H := H) (a := x + 1) h21
  have a1 : Y1.1 x = some (.inr (10, [.null, .null, .null, .null])) := by rw [n1 _ (by omega)]; exact hx
  have op1 : ∀ v K, ae_pw Y1 x 10 0 v K = K (ah_set Y1 x (.inr (10, [v, .null, .null, .null]))) := fun v K => by unfold ae_pw; rw [a1]; rfl
  have c1 : (ah_set Y1 x (.inr (10, [.ref (x + 1), .null, .null, .null]))).1 x = some (.inr (10, [.ref (x + 1), .null, .null, .null])) := hs_eq rfl
  have l1 : ∀ b, b ≠ x → (ah_set Y1 x (.inr (10, [.ref (x + 1), .null, .null, .null]))).1 b = Y1.1 b := fun b hb => hs_ne hb
  have t1 : (ah_set Y1 x (.inr (10, [.ref (x + 1), .null, .null, .null]))).2 = (x + 4, H.2.2.1 + 51, H.2.2.2) := q1
  generalize hZ1 : ah_set Y1 x (.inr (10, [.ref (x + 1), .null, .null, .null])) = Z1 at c1 l1 t1
  have m1 : Z1.2.1 = x + 4 := by rw [t1]
  -- tape
  obtain ⟨Y2, y2, s2, n2, q2⟩ := new_num (d := d + 5) (H := Z1) (a := x + 4) (n := 120) m1 (by omega)
  have a2 : Y2.1 x = some (.inr (10, [.ref (x + 1), .null, .null, .null])) := by rw [n2 _ (by omega)]; exact c1
  have op2 : ∀ v K, ae_pw Y2 x 10 1 v K = K (ah_set Y2 x (.inr (10, [.ref (x + 1), v, .null, .null]))) := fun v K => by unfold ae_pw; rw [a2]; rfl
  have c2 : (ah_set Y2 x (.inr (10, [.ref (x + 1), .ref (x + 4), .null, .null]))).1 x = some (.inr (10, [.ref (x + 1), .ref (x + 4), .null, .null])) := hs_eq rfl
  have l2 : ∀ b, b ≠ x → (ah_set Y2 x (.inr (10, [.ref (x + 1), .ref (x + 4), .null, .null]))).1 b = Y2.1 b := fun b hb => hs_ne hb
  have t2 : (ah_set Y2 x (.inr (10, [.ref (x + 1), .ref (x + 4), .null, .null]))).2 = (x + 6, H.2.2.1 + 173, H.2.2.2) := by show Y2.2 = _; rw [q2, t1]
  generalize hZ2 : ah_set Y2 x (.inr (10, [.ref (x + 1), .ref (x + 4), .null, .null])) = Z2 at c2 l2 t2
  have m2 : Z2.2.1 = x + 6 := by rw [t2]
  have m22 : Z2.2.2.2.1 = H.2.2.2.1 := by rw [t2]
  -- rules
  obtain ⟨Y3, y3, r1, r2, r3, ⟨r4, r5⟩, r6, r7, r8, n3, q3⟩ := new_rules (d := d) (H := Z2) (a := x + 6) (s := x + 1) (fe := fe) m2 (by rw [m22, l2 _ (by omega), n2 _ (by omega), l1 _ (by omega), n1 _ (by omega)]; exact hea) (by rw [m22]; omega)
  rw [m22] at r5
  have o1 : ∀ K, ae_gw (ah_new Z2 (.inr (5, [.null, .null, .null, .null, .int (nI 0)])) 5) x 10 0 K = K (.ref (x + 1)) := fun K => by unfold ae_gw; rw [hn_ne (by omega), c2]; rfl
  have a3 : Y3.1 x = some (.inr (10, [.ref (x + 1), .ref (x + 4), .null, .null])) := by rw [n3 _ (by omega)]; exact c2
  have op3 : ∀ v K, ae_pw Y3 x 10 2 v K = K (ah_set Y3 x (.inr (10, [.ref (x + 1), .ref (x + 4), v, .null]))) := fun v K => by unfold ae_pw; rw [a3]; rfl
  have c3 : (ah_set Y3 x (.inr (10, [.ref (x + 1), .ref (x + 4), .ref (x + 6), .null]))).1 x = some (.inr (10, [.ref (x + 1), .ref (x + 4), .ref (x + 6), .null])) := hs_eq rfl
  have l3 : ∀ b, b ≠ x → (ah_set Y3 x (.inr (10, [.ref (x + 1), .ref (x + 4), .ref (x + 6), .null]))).1 b = Y3.1 b := fun b hb => hs_ne hb
  have t3 : (ah_set Y3 x (.inr (10, [.ref (x + 1), .ref (x + 4), .ref (x + 6), .null]))).2 = (x + 15, H.2.2.1 + 493, H.2.2.2) := by show Y3.2 = _; rw [q3, t2]
  generalize hZ3 : ah_set Y3 x (.inr (10, [.ref (x + 1), .ref (x + 4), .ref (x + 6), .null])) = Z3 at c3 l3 t3
  have m3 : Z3.2.1 = x + 15 := by rw [t3]
  -- solver
  obtain ⟨Y4, y4, u1, u2, u3, u4, u5, u6, u7, n4, q4⟩ := new_solver (d := d + 3) (H := Z3) (a := x + 15) (s := x + 1) (r := x + 6) m3
  have o2 : ∀ K, ae_gw (ah_new Z3 (.inr (6, [.null, .null, .null, .null, .null, .null, .null, .null, .int (nI 0), .int (nI 0), .int (nI 0), .int (nI 0), .int (nI 0)])) 13) x 10 0 K = K (.ref (x + 1)) := fun K => by unfold ae_gw; rw [hn_ne (by omega), c3]; rfl
  have o3 : ∀ K, ae_gw (ah_new Z3 (.inr (6, [.null, .null, .null, .null, .null, .null, .null, .null, .int (nI 0), .int (nI 0), .int (nI 0), .int (nI 0), .int (nI 0)])) 13) x 10 2 K = K (.ref (x + 6)) := fun K => by unfold ae_gw; rw [hn_ne (by omega), c3]; rfl
  have a4 : Y4.1 x = some (.inr (10, [.ref (x + 1), .ref (x + 4), .ref (x + 6), .null])) := by rw [n4 _ (by omega)]; exact c3
  have op4 : ∀ v K, ae_pw Y4 x 10 3 v K = K (ah_set Y4 x (.inr (10, [.ref (x + 1), .ref (x + 4), .ref (x + 6), v]))) := fun v K => by unfold ae_pw; rw [a4]; rfl
  have L4 : ∀ b, b ≠ x → (ah_set Y4 x (.inr (10, [.ref (x + 1), .ref (x + 4), .ref (x + 6), .ref (x + 15)]))).1 b = Y4.1 b := fun b hb => hs_ne hb
  have L3 : ∀ b, b ≠ x → b < x + 15 → (ah_set Y4 x (.inr (10, [.ref (x + 1), .ref (x + 4), .ref (x + 6), .ref (x + 15)]))).1 b = Y3.1 b := fun b hb h2 => by rw [L4 b hb, n4 b h2, l3 b hb]
  have L2 : ∀ b, b ≠ x → b < x + 6 → (ah_set Y4 x (.inr (10, [.ref (x + 1), .ref (x + 4), .ref (x + 6), .ref (x + 15)]))).1 b = Y2.1 b := fun b hb h2 => by rw [L3 b hb (by omega), n3 b h2, l2 b hb]
  have L1 : ∀ b, b ≠ x → b < x + 4 → (ah_set Y4 x (.inr (10, [.ref (x + 1), .ref (x + 4), .ref (x + 6), .ref (x + 15)]))).1 b = Y1.1 b := fun b hb h2 => by rw [L2 b hb (by omega), n2 b h2, l1 b hb]
  have L0 : ∀ b, b < x → (ah_set Y4 x (.inr (10, [.ref (x + 1), .ref (x + 4), .ref (x + 6), .ref (x + 15)]))).1 b = H.1 b := fun b hb => by rw [L1 b (by omega) (by omega), n1 b (by omega)]
  refine ⟨ah_set Y4 x (.inr (10, [.ref (x + 1), .ref (x + 4), .ref (x + 6), .ref (x + 15)])), fun Q => ?_, ⟨hs_eq rfl, ⟨?_, ?_, ?_⟩, ⟨?_, ?_⟩, ⟨?_, ?_, ?_, ⟨?_, ?_⟩, ?_, ⟨?_, ?_⟩, ?_⟩, ?_, ⟨?_, ?_⟩, ⟨?_, ?_⟩, ⟨?_, ?_⟩, ?_, ⟨?_, ?_, ?_⟩, ?_, ?_, ?_⟩, L0, ?_⟩
  · simp (disch := first | exact ae_isR_ref _ | exact ae_isR_null | exact ae_isR_rf _ | exact ae_cat_ref _ | exact ae_cat_int _ | exact ae_cat_null | exact ae_cat_rf _ | exact ae_nz0 | exact ae_nz1 | exact ae_fz0 | exact ae_fz1 | exact cI_na (by omega) | exact cI_ix (by omega) | exact cI_nn (by omega) | exact cI_nz (by omega) | exact cI_cp (by omega) | assumption | omega) only [s_X10_init_0, s_X10_init_1, s_X10_init_4, s_X10_init_5, s_X10_init_8, s_X10_init_9, s_X10_init_12, s_X10_init_15, s_X10_init_16, s_X10_init_19, s_X10_init_20, s_X10_init_22, s_X10_init_25, s_X10_init_28, s_X10_init_29, s_X10_init_32, s_X10_init_33, s_X10_init_34, s_X10_init_37, s_X10_init_40, s_X10_init_43, s_X10_init_44, s_X10_init_47, s_X10_init_48, s_X10_init_49, s_X10_init_52, s_X10_init_53, s_X10_init_56, s_X10_init_59, s_X10_init_62, e_X10_init, og_0, og_1, og_2, og_3, og_4, og_5, og_6, og_7, og_8, og_9, og_10, og_11, og_12, op_6, op_8, op_9, op_10, op_11, op_12, dg_0, dg_1, dg_2, dg_3, dp_1, dp_2, dp_3, ng_b, ng_d, mz_m, ms_m, ov_2, nset_d, nset_b, uI_1, uI_2, uR_1, uR_21, uR_22, va_rf, Bool.false_eq_true, ae_Ki, ae_Kb, ae_Kj, ae_Ka, ae_Si, ae_Sb, ae_Sj, ae_Sn, List.getElem?_cons_succ, List.getElem?_cons_zero, ↓reduceIte, if_true, if_false, nI_ofNat, true_or, or_true, false_or, or_false, true_and, and_true, false_and, and_false, or_self, and_self, not_true_eq_false, not_false_eq_true, eq_self, List.length_cons, List.length_nil, Nat.reduceAdd, Nat.reduceLT, Nat.reduceSub, List.set_cons_succ, List.set_cons_zero, Option.toList, List.nil_append, List.cons_append, cI_ltT, cI_ltF, cI_leT, cI_leF, cI_eqT, cI_eqF, cI_cl, cN_leT, cN_leF, cN_ltT, cN_ltF, cN_eqT, cN_eqF, cI_add, cI_sub, cI_m1a, cI_m1b, cI_m1c, cI_m1d, cI_m1e, cI_m1f, h21, y1, op1, hZ1, m1, y2, op2, hZ2, m2, o1, y3, op3, hZ3, m3, o2, o3, y4, op4]
  · rw [L1 _ (by omega) (by omega)]; exact s1.1
  · rw [L1 _ (by omega) (by omega)]; exact s1.2.1
  · rw [L1 _ (by omega) (by omega)]; exact s1.2.2
  · rw [L2 _ (by omega) (by omega)]; exact s2.1
  · rw [L2 _ (by omega) (by omega)]; exact s2.2
  · rw [L3 _ (by omega) (by omega)]; exact r1
  · rw [L3 _ (by omega) (by omega)]; exact r2
  · rw [L3 _ (by omega) (by omega)]; exact r3
  · rw [L3 _ (by omega) (by omega)]; exact r4
  · obtain ⟨⟨mc, j1⟩, j2, j3⟩ := r5
    exact ⟨⟨mc, by rw [L3 _ (by omega) (by omega)]; exact j1⟩, by rw [L3 _ (by omega) (by omega)]; exact j2, j3⟩
  · unfold tmk; rw [L3 _ (by omega) (by omega)]; exact r6
  · rw [L3 _ (by omega) (by omega)]; exact r7.1
  · rw [L3 _ (by omega) (by omega)]; exact r7.2
  · rw [L3 _ (by omega) (by omega)]; exact r8
  · rw [L4 _ (by omega)]; exact u1
  · rw [L4 _ (by omega)]; exact u2.1
  · rw [L4 _ (by omega)]; exact u2.2
  · rw [L4 _ (by omega)]; exact u3.1
  · rw [L4 _ (by omega)]; exact u3.2
  · rw [L4 _ (by omega)]; exact u4.1
  · rw [L4 _ (by omega)]; exact u4.2
  · rw [L4 _ (by omega)]; exact u5
  · rw [L4 _ (by omega)]; exact u6.1
  · rw [L4 _ (by omega)]; exact u6.2.1
  · rw [L4 _ (by omega)]; exact u6.2.2
  · rw [L4 _ (by omega)]; exact u7.1
  · rw [L4 _ (by omega)]; exact u7.2.1
  · rw [L4 _ (by omega)]; exact u7.2.2
  · show Y4.2 = _
    rw [q4, t3]
/-- the class at its beginning -/
def P0 (x i : Nat) : Option Nat := if i = 70 then some (x + 23) else if i = 71 then some (x + 26) else none
def y0 : rS := (fun k => if k = 8 then -1 else nI 0, fun _ _ => 0, fun _ _ _ => 0, fun _ => 0)
def ro0 (x a : Nat) : Nat := if a = x + 9 ∨ a = x + 10 then 10 + (x + 9) else if x + 23 ≤ a ∧ a ≤ x + 28 then 1 else 0
theorem newC_CIz {G : ah_H} {x b : Nat} {fe : Nat → Option Nat} (h : newC G x G.2.2.2.1 fe) (hea : G.1 G.2.2.2.1 = some (.inl (98, 0, .inr (.inr (.inr (.inr fe)))))) (hel : G.2.2.2.1 < x) (hb : b < x) (hN : G.2.1 = x + 236) (hsl : G.2.2.1 ≤ 90000) : CIz G x b 0 (fun _ => 0) (fun _ => false) [] [] ([], [], nI 0, nI 0, nI 0, nI 0) (x + 236) 90000 0 := by
  obtain ⟨h1, h2, h3, ⟨h7, h8, h9, ⟨h10, h11⟩, h14, h15, h17⟩, h18, h19, h21, h23, h25, ⟨h26, h27, h28⟩, h29, h30, h31⟩ := h
  have hP : ∀ i a, P0 x i = some a → (i = 70 ∧ a = x + 23) ∨ (i = 71 ∧ a = x + 26) := fun i a hi => by
    unfold P0 at hi
    by_cases c1 : i = 70
    · rw [if_pos c1] at hi; cases hi; exact Or.inl ⟨c1, rfl⟩
    · rw [if_neg c1] at hi
      by_cases c2 : i = 71
      · rw [if_pos c2] at hi; cases hi; exact Or.inr ⟨c2, rfl⟩
      · rw [if_neg c2] at hi; cases hi
  have hlow : ∀ i, i < 70 → P0 x i = none := fun i hi => by unfold P0; rw [if_neg (by omega), if_neg (by omega)]
  have hps1 : psh G (x + 23) := ⟨nI 0, nI 0, nI 0, nI 0, fun _ => 0, h26, h27, h28⟩
  have hps2 : psh G (x + 26) := ⟨nI 0, nI 0, nI 0, nI 0, fun _ => 0, h29, h30, h31⟩
  have hro1 : ∀ a, x + 23 ≤ a → a ≤ x + 28 → ro0 x a = 1 := fun a q1 q2 => by unfold ro0; rw [if_neg (by omega), if_pos ⟨q1, q2⟩]
  have hro0 : ∀ a, a ≠ x + 9 → a ≠ x + 10 → (a < x + 23 ∨ x + 28 < a) → ro0 x a = 0 := fun a q1 q2 q3 => by unfold ro0; rw [if_neg (by omega), if_neg (by omega)]
  refine ⟨P0 x, x + 23, x + 26, y0, 0, fun _ => 0, fun _ => 0, ro0 x, x + 9, fun _ => none, fun _ => none, [x + 9], fun _ => 0, fun _ => 0, fe, ⟨h1, ⟨h2, ⟨by omega, fun k hk => absurd hk (Nat.not_lt_zero _), fun _ _ => rfl⟩, fun k hk => absurd hk (Nat.not_lt_zero _), fun _ _ => rfl⟩, ⟨_, h3, fun i hi => absurd hi (Nat.not_lt_zero _), by simp, fun i hi => absurd hi (Nat.not_lt_zero _)⟩, ⟨rfl, rfl, ⟨fun i j a c hi hj hij => ?_, fun i a hi => ?_⟩, ov_mk h18 h23.1 h23.2 h25 h29 h30 h31, ⟨⟨h19.1, ?_⟩, by omega, by simp, fun i hi => absurd hi (Nat.not_lt_zero _)⟩, ⟨⟨h21.1, ?_⟩, by simp, fun i hi => absurd hi (Nat.not_lt_zero _)⟩, ⟨rfl, rfl, rfl, rfl⟩, ⟨[], rfl, fun i hi => absurd hi (Nat.not_lt_zero _), by simp⟩, by omega⟩, ⟨⟨h7, h8, h9, h14, ⟨[], _, h15, fun i hi => absurd hi (Nat.not_lt_zero _), by simp⟩, _, h17⟩, fun r hr => absurd hr (Nat.not_lt_zero _), ⟨by simp, by simp, rfl, fun f t _ w => by cases w⟩, ⟨G.2.2.2.1, fe, 0, ⟨h10, h11, Nat.le_refl _, fun i hi => absurd hi (Nat.not_lt_zero _), fun i j a hi => absurd hi (Nat.not_lt_zero _), fun _ => rfl, ⟨Nat.zero_le _, Nat.zero_le _⟩, ⟨by omega, by omega⟩, ?_, ?_, Or.inr rfl⟩, trivial⟩, fun f _ => ⟨fun _ => rof_nil f, fun t w => by cases w⟩, fun t ht => ?_⟩, ⟨fun a ha => ?_, fun a q1 q2 q3 q4 => hro0 a q3 q4 (by omega), by omega, hea, hro0 _ (by omega) (by omega) (by omega), hel⟩, fun i a hi => ?_, fun a q1 q2 => hro0 a (by omega) (by omega) (by omega)⟩, ⟨by omega, by omega⟩, hro0 _ (by omega) (by omega) (by omega), hb⟩
  · rcases hP i a hi with ⟨e1, e2⟩ | ⟨e1, e2⟩
    · rcases hP j c hj with ⟨e3, e4⟩ | ⟨e3, e4⟩
      · omega
      · omega
    · rcases hP j c hj with ⟨e3, e4⟩ | ⟨e3, e4⟩
      · omega
      · omega
  · rcases hP i a hi with ⟨e1, e2⟩ | ⟨e1, e2⟩
    · subst e2; exact ⟨⟨by omega, by omega⟩, by omega, hps1⟩
    · subst e2; exact ⟨⟨by omega, by omega⟩, by omega, hps2⟩
  · rw [show (fun i => if i < 40 then P0 x i else none) = fun _ => none from funext (fun i => by
      by_cases c : i < 40
      · rw [if_pos c]; exact hlow i (by omega)
      · rw [if_neg c])]
    exact h19.2
  · rw [show (fun i => if i < 30 then P0 x (40 + i) else none) = fun _ => none from funext (fun i => by
      by_cases c : i < 30
      · rw [if_pos c]; exact hlow _ (by omega)
      · rw [if_neg c])]
    exact h21.2
  · exact if_pos (Or.inl rfl)
  · exact if_pos (Or.inr rfl)
  · rw [List.mem_singleton.mp ht]; omega
  · unfold ro0 at ha
    by_cases c1 : a = x + 9 ∨ a = x + 10
    · omega
    · rw [if_neg c1] at ha
      by_cases c2 : x + 23 ≤ a ∧ a ≤ x + 28
      · omega
      · rw [if_neg c2] at ha; exact absurd rfl ha
  · rcases hP i a hi with ⟨e1, e2⟩ | ⟨e1, e2⟩
    · subst e2; exact ⟨hro1 _ (by omega) (by omega), hro1 _ (by omega) (by omega), hro1 _ (by omega) (by omega)⟩
    · subst e2; exact ⟨hro1 _ (by omega) (by omega), hro1 _ (by omega) (by omega), hro1 _ (by omega) (by omega)⟩
end INX
