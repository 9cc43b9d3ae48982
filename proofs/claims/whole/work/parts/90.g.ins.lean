/-! NarrowSolver$Solver's constructor (by program) -/
section INS
variable {d : Nat} {Q : Option Value → ah_H → Prop}
theorem new_solver {H : ah_H} {a s r : Nat} (h21 : H.2.1 = a) : ∃ Y, (∀ Q, ae_wm (d + 2) mX6_init [.ref a, .ref s, .ref r] (ah_new H (.inr (6, [.null, .null, .null, .null, .null, .null, .null, .null, .int (nI 0), .int (nI 0), .int (nI 0), .int (nI 0), .int (nI 0)])) 13) Q = Q none Y) ∧ Y.1 a = some (.inr (6, [.ref s, .ref r, .ref (a + 1), .ref (a + 3), .ref (a + 5), .ref (a + 7), .ref (a + 8), .ref (a + 11), .int (-1), .int (nI 0), .int (nI 0), .int (nI 0), .int (nI 0)])) ∧ ring Y (a + 1) 40 (fun _ => none) 0 0 ∧ ring Y (a + 3) 30 (fun _ => none) 0 0 ∧ nmb Y (a + 5) 4 (fun _ => 0) 0 ∧ Y.1 (a + 7) = some (.inl (0, 10, .inl (fun _ => 0))) ∧ (Y.1 (a + 8) = some (.inr (2, [.ref (a + 9), .int (nI 0), .int (nI 0), .int (nI 0)])) ∧ Y.1 (a + 9) = some (.inr (1, [.ref (a + 10), .int (nI 0)])) ∧ Y.1 (a + 10) = some (.inl (0, 300, .inl (fun _ => 0)))) ∧ (Y.1 (a + 11) = some (.inr (2, [.ref (a + 12), .int (nI 0), .int (nI 0), .int (nI 0)])) ∧ Y.1 (a + 12) = some (.inr (1, [.ref (a + 13), .int (nI 0)])) ∧ Y.1 (a + 13) = some (.inl (0, 300, .inl (fun _ => 0)))) ∧ nxt H Y a 14 717 := by
  have e1 : (ah_new H (.inr (6, [.null, .null, .null, .null, .null, .null, .null, .null, .int (nI 0), .int (nI 0), .int (nI 0), .int (nI 0), .int (nI 0)])) 13).2 = (a + 1, H.2.2.1 + 13, H.2.2.2) := by show (H.2.1 + 1, _, _) = _; rw [h21]
  have e2 : (ah_new H (.inr (6, [.null, .null, .null, .null, .null, .null, .null, .null, .int (nI 0), .int (nI 0), .int (nI 0), .int (nI 0), .int (nI 0)])) 13).1 a = some (.inr (6, [.null, .null, .null, .null, .null, .null, .null, .null, .int (nI 0), .int (nI 0), .int (nI 0), .int (nI 0), .int (nI 0)])) := hn_eq h21.symm
  have e3 : ∀ b, b < a → (ah_new H (.inr (6, [.null, .null, .null, .null, .null, .null, .null, .null, .int (nI 0), .int (nI 0), .int (nI 0), .int (nI 0), .int (nI 0)])) 13).1 b = H.1 b := fun b hb => hn_ne (by omega)
  generalize ah_new H (.inr (6, [.null, .null, .null, .null, .null, .null, .null, .null, .int (nI 0), .int (nI 0), .int (nI 0), .int (nI 0), .int (nI 0)])) 13 = X0 at e1 e2 e3
  have n0 : X0.2.1 = a + 1 := by rw [e1]
  obtain ⟨Y0, y0, r0, b0, q0⟩ := new_row (d := d + 1) (H := X0) (a := a + 1) (n := 40) n0 (by omega)
  have a0 : Y0.1 a = some (.inr (6, [.null, .null, .null, .null, .null, .null, .null, .null, .int (nI 0), .int (nI 0), .int (nI 0), .int (nI 0), .int (nI 0)])) := by rw [b0 a (by omega)]; exact e2
  have op0 : ∀ v K, ae_pw Y0 a 6 2 v K = K (ah_set Y0 a (.inr (6, [.null, .null, v, .null, .null, .null, .null, .null, .int (nI 0), .int (nI 0), .int (nI 0), .int (nI 0), .int (nI 0)]))) := fun v K => by unfold ae_pw; rw [a0]; rfl
  have s0 : ∀ b, b ≠ a → (ah_set Y0 a (.inr (6, [.null, .null, .ref (a + 1), .null, .null, .null, .null, .null, .int (nI 0), .int (nI 0), .int (nI 0), .int (nI 0), .int (nI 0)]))).1 b = Y0.1 b := fun b hb => hs_ne hb
  have c0 : (ah_set Y0 a (.inr (6, [.null, .null, .ref (a + 1), .null, .null, .null, .null, .null, .int (nI 0), .int (nI 0), .int (nI 0), .int (nI 0), .int (nI 0)]))).1 a = some (.inr (6, [.null, .null, .ref (a + 1), .null, .null, .null, .null, .null, .int (nI 0), .int (nI 0), .int (nI 0), .int (nI 0), .int (nI 0)])) := hs_eq rfl
  have t0 : (ah_set Y0 a (.inr (6, [.null, .null, .ref (a + 1), .null, .null, .null, .null, .null, .int (nI 0), .int (nI 0), .int (nI 0), .int (nI 0), .int (nI 0)]))).2 = Y0.2 := rfl
  generalize hX1 : ah_set Y0 a (.inr (6, [.null, .null, .ref (a + 1), .null, .null, .null, .null, .null, .int (nI 0), .int (nI 0), .int (nI 0), .int (nI 0), .int (nI 0)])) = X1 at s0 c0 t0
  have f1 : X1.2 = (a + 3, H.2.2.1 + 56, H.2.2.2) := by rw [t0, q0, e1]
  have n1 : X1.2.1 = a + 3 := by rw [f1]
  obtain ⟨Y1, y1, r1, b1, q1⟩ := new_row (d := d + 1) (H := X1) (a := a + 3) (n := 30) n1 (by omega)
  have a1 : Y1.1 a = some (.inr (6, [.null, .null, .ref (a + 1), .null, .null, .null, .null, .null, .int (nI 0), .int (nI 0), .int (nI 0), .int (nI 0), .int (nI 0)])) := by rw [b1 a (by omega)]; exact c0
  have op1 : ∀ v K, ae_pw Y1 a 6 3 v K = K (ah_set Y1 a (.inr (6, [.null, .null, .ref (a + 1), v, .null, .null, .null, .null, .int (nI 0), .int (nI 0), .int (nI 0), .int (nI 0), .int (nI 0)]))) := fun v K => by unfold ae_pw; rw [a1]; rfl
  have s1 : ∀ b, b ≠ a → (ah_set Y1 a (.inr (6, [.null, .null, .ref (a + 1), .ref (a + 3), .null, .null, .null, .null, .int (nI 0), .int (nI 0), .int (nI 0), .int (nI 0), .int (nI 0)]))).1 b = Y1.1 b := fun b hb => hs_ne hb
  have c1 : (ah_set Y1 a (.inr (6, [.null, .null, .ref (a + 1), .ref (a + 3), .null, .null, .null, .null, .int (nI 0), .int (nI 0), .int (nI 0), .int (nI 0), .int (nI 0)]))).1 a = some (.inr (6, [.null, .null, .ref (a + 1), .ref (a + 3), .null, .null, .null, .null, .int (nI 0), .int (nI 0), .int (nI 0), .int (nI 0), .int (nI 0)])) := hs_eq rfl
  have t1 : (ah_set Y1 a (.inr (6, [.null, .null, .ref (a + 1), .ref (a + 3), .null, .null, .null, .null, .int (nI 0), .int (nI 0), .int (nI 0), .int (nI 0), .int (nI 0)]))).2 = Y1.2 := rfl
  generalize hX2 : ah_set Y1 a (.inr (6, [.null, .null, .ref (a + 1), .ref (a + 3), .null, .null, .null, .null, .int (nI 0), .int (nI 0), .int (nI 0), .int (nI 0), .int (nI 0)])) = X2 at s1 c1 t1
  have f2 : X2.2 = (a + 5, H.2.2.1 + 89, H.2.2.2) := by rw [t1, q1, f1]
  have n2 : X2.2.1 = a + 5 := by rw [f2]
  obtain ⟨Y2, y2, r2, b2, q2⟩ := new_num (d := d + 1) (H := X2) (a := a + 5) (n := 4) n2 (by omega)
  have a2 : Y2.1 a = some (.inr (6, [.null, .null, .ref (a + 1), .ref (a + 3), .null, .null, .null, .null, .int (nI 0), .int (nI 0), .int (nI 0), .int (nI 0), .int (nI 0)])) := by rw [b2 a (by omega)]; exact c1
  have op2 : ∀ v K, ae_pw Y2 a 6 4 v K = K (ah_set Y2 a (.inr (6, [.null, .null, .ref (a + 1), .ref (a + 3), v, .null, .null, .null, .int (nI 0), .int (nI 0), .int (nI 0), .int (nI 0), .int (nI 0)]))) := fun v K => by unfold ae_pw; rw [a2]; rfl
  have s2 : ∀ b, b ≠ a → (ah_set Y2 a (.inr (6, [.null, .null, .ref (a + 1), .ref (a + 3), .ref (a + 5), .null, .null, .null, .int (nI 0), .int (nI 0), .int (nI 0), .int (nI 0), .int (nI 0)]))).1 b = Y2.1 b := fun b hb => hs_ne hb
  have c2 : (ah_set Y2 a (.inr (6, [.null, .null, .ref (a + 1), .ref (a + 3), .ref (a + 5), .null, .null, .null, .int (nI 0), .int (nI 0), .int (nI 0), .int (nI 0), .int (nI 0)]))).1 a = some (.inr (6, [.null, .null, .ref (a + 1), .ref (a + 3), .ref (a + 5), .null, .null, .null, .int (nI 0), .int (nI 0), .int (nI 0), .int (nI 0), .int (nI 0)])) := hs_eq rfl
  have t2 : (ah_set Y2 a (.inr (6, [.null, .null, .ref (a + 1), .ref (a + 3), .ref (a + 5), .null, .null, .null, .int (nI 0), .int (nI 0), .int (nI 0), .int (nI 0), .int (nI 0)]))).2 = Y2.2 := rfl
  generalize hX3 : ah_set Y2 a (.inr (6, [.null, .null, .ref (a + 1), .ref (a + 3), .ref (a + 5), .null, .null, .null, .int (nI 0), .int (nI 0), .int (nI 0), .int (nI 0), .int (nI 0)])) = X3 at s2 c2 t2
  have f3 : X3.2 = (a + 7, H.2.2.1 + 95, H.2.2.2) := by rw [t2, q2, f2]
  have n3 : X3.2.1 = a + 7 := by rw [f3]
  have r3 : (ah_new X3 (.inl (0, 10, .inl (fun _ => 0))) 10).1 (a + 7) = some (.inl (0, 10, .inl (fun _ => 0))) := hn_eq n3.symm
  have b3 : ∀ b, b < a + 7 → (ah_new X3 (.inl (0, 10, .inl (fun _ => 0))) 10).1 b = X3.1 b := fun b hb => hn_ne (by omega)
  have q3 : (ah_new X3 (.inl (0, 10, .inl (fun _ => 0))) 10).2 = (a + 8, X3.2.2.1 + 10, X3.2.2.2) := by show (X3.2.1 + 1, _, _) = _; rw [n3]
  generalize y3 : ah_new X3 (.inl (0, 10, .inl (fun _ => 0))) 10 = Y3 at r3 b3 q3
  have a3 : Y3.1 a = some (.inr (6, [.null, .null, .ref (a + 1), .ref (a + 3), .ref (a + 5), .null, .null, .null, .int (nI 0), .int (nI 0), .int (nI 0), .int (nI 0), .int (nI 0)])) := by rw [b3 a (by omega)]; exact c2
  have op3 : ∀ v K, ae_pw Y3 a 6 5 v K = K (ah_set Y3 a (.inr (6, [.null, .null, .ref (a + 1), .ref (a + 3), .ref (a + 5), v, .null, .null, .int (nI 0), .int (nI 0), .int (nI 0), .int (nI 0), .int (nI 0)]))) := fun v K => by unfold ae_pw; rw [a3]; rfl
  have s3 : ∀ b, b ≠ a → (ah_set Y3 a (.inr (6, [.null, .null, .ref (a + 1), .ref (a + 3), .ref (a + 5), .ref (a + 7), .null, .null, .int (nI 0), .int (nI 0), .int (nI 0), .int (nI 0), .int (nI 0)]))).1 b = Y3.1 b := fun b hb => hs_ne hb
  have c3 : (ah_set Y3 a (.inr (6, [.null, .null, .ref (a + 1), .ref (a + 3), .ref (a + 5), .ref (a + 7), .null, .null, .int (nI 0), .int (nI 0), .int (nI 0), .int (nI 0), .int (nI 0)]))).1 a = some (.inr (6, [.null, .null, .ref (a + 1), .ref (a + 3), .ref (a + 5), .ref (a + 7), .null, .null, .int (nI 0), .int (nI 0), .int (nI 0), .int (nI 0), .int (nI 0)])) := hs_eq rfl
  have t3 : (ah_set Y3 a (.inr (6, [.null, .null, .ref (a + 1), .ref (a + 3), .ref (a + 5), .ref (a + 7), .null, .null, .int (nI 0), .int (nI 0), .int (nI 0), .int (nI 0), .int (nI 0)]))).2 = Y3.2 := rfl
  generalize hX4 : ah_set Y3 a (.inr (6, [.null, .null, .ref (a + 1), .ref (a + 3), .ref (a + 5), .ref (a + 7), .null, .null, .int (nI 0), .int (nI 0), .int (nI 0), .int (nI 0), .int (nI 0)])) = X4 at s3 c3 t3
  have f4 : X4.2 = (a + 8, H.2.2.1 + 105, H.2.2.2) := by rw [t3, q3, f3]
  have n4 : X4.2.1 = a + 8 := by rw [f4]
  obtain ⟨Y4, y4, r4, b4, q4⟩ := new_prob (d := d) (H := X4) (a := a + 8) n4
  have a4 : Y4.1 a = some (.inr (6, [.null, .null, .ref (a + 1), .ref (a + 3), .ref (a + 5), .ref (a + 7), .null, .null, .int (nI 0), .int (nI 0), .int (nI 0), .int (nI 0), .int (nI 0)])) := by rw [b4 a (by omega)]; exact c3
  have op4 : ∀ v K, ae_pw Y4 a 6 6 v K = K (ah_set Y4 a (.inr (6, [.null, .null, .ref (a + 1), .ref (a + 3), .ref (a + 5), .ref (a + 7), v, .null, .int (nI 0), .int (nI 0), .int (nI 0), .int (nI 0), .int (nI 0)]))) := fun v K => by unfold ae_pw; rw [a4]; rfl
  have s4 : ∀ b, b ≠ a → (ah_set Y4 a (.inr (6, [.null, .null, .ref (a + 1), .ref (a + 3), .ref (a + 5), .ref (a + 7), .ref (a + 8), .null, .int (nI 0), .int (nI 0), .int (nI 0), .int (nI 0), .int (nI 0)]))).1 b = Y4.1 b := fun b hb => hs_ne hb
  have c4 : (ah_set Y4 a (.inr (6, [.null, .null, .ref (a + 1), .ref (a + 3), .ref (a + 5), .ref (a + 7), .ref (a + 8), .null, .int (nI 0), .int (nI 0), .int (nI 0), .int (nI 0), .int (nI 0)]))).1 a = some (.inr (6, [.null, .null, .ref (a + 1), .ref (a + 3), .ref (a + 5), .ref (a + 7), .ref (a + 8), .null, .int (nI 0), .int (nI 0), .int (nI 0), .int (nI 0), .int (nI 0)])) := hs_eq rfl
  have t4 : (ah_set Y4 a (.inr (6, [.null, .null, .ref (a + 1), .ref (a + 3), .ref (a + 5), .ref (a + 7), .ref (a + 8), .null, .int (nI 0), .int (nI 0), .int (nI 0), .int (nI 0), .int (nI 0)]))).2 = Y4.2 := rfl
  generalize hX5 : ah_set Y4 a (.inr (6, [.null, .null, .ref (a + 1), .ref (a + 3), .ref (a + 5), .ref (a + 7), .ref (a + 8), .null, .int (nI 0), .int (nI 0), .int (nI 0), .int (nI 0), .int (nI 0)])) = X5 at s4 c4 t4
  have f5 : X5.2 = (a + 11, H.2.2.1 + 411, H.2.2.2) := by rw [t4, q4, f4]
  have n5 : X5.2.1 = a + 11 := by rw [f5]
  obtain ⟨Y5, y5, r5, b5, q5⟩ := new_prob (d := d) (H := X5) (a := a + 11) n5
  have a5 : Y5.1 a = some (.inr (6, [.null, .null, .ref (a + 1), .ref (a + 3), .ref (a + 5), .ref (a + 7), .ref (a + 8), .null, .int (nI 0), .int (nI 0), .int (nI 0), .int (nI 0), .int (nI 0)])) := by rw [b5 a (by omega)]; exact c4
  have op5 : ∀ v K, ae_pw Y5 a 6 7 v K = K (ah_set Y5 a (.inr (6, [.null, .null, .ref (a + 1), .ref (a + 3), .ref (a + 5), .ref (a + 7), .ref (a + 8), v, .int (nI 0), .int (nI 0), .int (nI 0), .int (nI 0), .int (nI 0)]))) := fun v K => by unfold ae_pw; rw [a5]; rfl
  have s5 : ∀ b, b ≠ a → (ah_set Y5 a (.inr (6, [.null, .null, .ref (a + 1), .ref (a + 3), .ref (a + 5), .ref (a + 7), .ref (a + 8), .ref (a + 11), .int (nI 0), .int (nI 0), .int (nI 0), .int (nI 0), .int (nI 0)]))).1 b = Y5.1 b := fun b hb => hs_ne hb
  have c5 : (ah_set Y5 a (.inr (6, [.null, .null, .ref (a + 1), .ref (a + 3), .ref (a + 5), .ref (a + 7), .ref (a + 8), .ref (a + 11), .int (nI 0), .int (nI 0), .int (nI 0), .int (nI 0), .int (nI 0)]))).1 a = some (.inr (6, [.null, .null, .ref (a + 1), .ref (a + 3), .ref (a + 5), .ref (a + 7), .ref (a + 8), .ref (a + 11), .int (nI 0), .int (nI 0), .int (nI 0), .int (nI 0), .int (nI 0)])) := hs_eq rfl
  have t5 : (ah_set Y5 a (.inr (6, [.null, .null, .ref (a + 1), .ref (a + 3), .ref (a + 5), .ref (a + 7), .ref (a + 8), .ref (a + 11), .int (nI 0), .int (nI 0), .int (nI 0), .int (nI 0), .int (nI 0)]))).2 = Y5.2 := rfl
  generalize hX6 : ah_set Y5 a (.inr (6, [.null, .null, .ref (a + 1), .ref (a + 3), .ref (a + 5), .ref (a + 7), .ref (a + 8), .ref (a + 11), .int (nI 0), .int (nI 0), .int (nI 0), .int (nI 0), .int (nI 0)])) = X6 at s5 c5 t5
  have f6 : X6.2 = (a + 14, H.2.2.1 + 717, H.2.2.2) := by rw [t5, q5, f5]
  have n6 : X6.2.1 = a + 14 := by rw [f6]
  have p1 : ∀ v K, ae_pw X6 a 6 8 (.int v) K = K (ah_set X6 a (.inr (6, [.null, .null, .ref (a + 1), .ref (a + 3), .ref (a + 5), .ref (a + 7), .ref (a + 8), .ref (a + 11), .int (v), .int (nI 0), .int (nI 0), .int (nI 0), .int (nI 0)]))) := fun v K => by unfold ae_pw; rw [c5]; rfl
  have p2 : ∀ v K, ae_pw (ah_set X6 a (.inr (6, [.null, .null, .ref (a + 1), .ref (a + 3), .ref (a + 5), .ref (a + 7), .ref (a + 8), .ref (a + 11), .int (-1), .int (nI 0), .int (nI 0), .int (nI 0), .int (nI 0)]))) a 6 0 v K = K (ah_set X6 a (.inr (6, [v, .null, .ref (a + 1), .ref (a + 3), .ref (a + 5), .ref (a + 7), .ref (a + 8), .ref (a + 11), .int (-1), .int (nI 0), .int (nI 0), .int (nI 0), .int (nI 0)]))) := fun v K => by unfold ae_pw; rw [hs_eq rfl]; exact congrArg K (hs_hs _ _ _ _)
  have p3 : ∀ u v K, ae_pw (ah_set X6 a (.inr (6, [u, .null, .ref (a + 1), .ref (a + 3), .ref (a + 5), .ref (a + 7), .ref (a + 8), .ref (a + 11), .int (-1), .int (nI 0), .int (nI 0), .int (nI 0), .int (nI 0)]))) a 6 1 v K = K (ah_set X6 a (.inr (6, [u, v, .ref (a + 1), .ref (a + 3), .ref (a + 5), .ref (a + 7), .ref (a + 8), .ref (a + 11), .int (-1), .int (nI 0), .int (nI 0), .int (nI 0), .int (nI 0)]))) := fun u v K => by unfold ae_pw; rw [hs_eq rfl]; exact congrArg K (hs_hs _ _ _ _)
  have hcl : (nI 10).toNatClampNeg = 10 := cI_cl (by omega)
  have L : ∀ b, b ≠ a → (ah_set X6 a (.inr (6, [.ref s, .ref r, .ref (a + 1), .ref (a + 3), .ref (a + 5), .ref (a + 7), .ref (a + 8), .ref (a + 11), .int (-1), .int (nI 0), .int (nI 0), .int (nI 0), .int (nI 0)]))).1 b = X6.1 b := fun b hb => hs_ne hb
  have L5 : ∀ b, b ≠ a → b < a + 14 → X6.1 b = Y5.1 b := fun b hb hl => by rw [s5 _ hb]
  have L4 : ∀ b, b ≠ a → b < a + 11 → X6.1 b = Y4.1 b := fun b hb hl => by rw [s5 _ hb, b5 _ (by omega), s4 _ hb]
  have L3 : ∀ b, b ≠ a → b < a + 8 → X6.1 b = Y3.1 b := fun b hb hl => by rw [s5 _ hb, b5 _ (by omega), s4 _ hb, b4 _ (by omega), s3 _ hb]
  have L2 : ∀ b, b ≠ a → b < a + 7 → X6.1 b = Y2.1 b := fun b hb hl => by rw [s5 _ hb, b5 _ (by omega), s4 _ hb, b4 _ (by omega), s3 _ hb, b3 _ (by omega), s2 _ hb]
  have L1 : ∀ b, b ≠ a → b < a + 5 → X6.1 b = Y1.1 b := fun b hb hl => by rw [s5 _ hb, b5 _ (by omega), s4 _ hb, b4 _ (by omega), s3 _ hb, b3 _ (by omega), s2 _ hb, b2 _ (by omega), s1 _ hb]
  have L0 : ∀ b, b ≠ a → b < a + 3 → X6.1 b = Y0.1 b := fun b hb hl => by rw [s5 _ hb, b5 _ (by omega), s4 _ hb, b4 _ (by omega), s3 _ hb, b3 _ (by omega), s2 _ hb, b2 _ (by omega), s1 _ hb, b1 _ (by omega), s0 _ hb]
  refine ⟨ah_set X6 a (.inr (6, [.ref s, .ref r, .ref (a + 1), .ref (a + 3), .ref (a + 5), .ref (a + 7), .ref (a + 8), .ref (a + 11), .int (-1), .int (nI 0), .int (nI 0), .int (nI 0), .int (nI 0)])), fun Q => ?_, hs_eq rfl, ⟨?_, ?_⟩, ⟨?_, ?_⟩, ⟨?_, ?_⟩, ?_, ⟨?_, ?_, ?_⟩, ⟨?_, ?_, ?_⟩, fun b hb => ?_, f6⟩
  · simp (disch := first | exact ae_isR_ref _ | exact ae_isR_null | exact ae_isR_rf _ | exact ae_cat_ref _ | exact ae_cat_int _ | exact ae_cat_null | exact ae_cat_rf _ | exact ae_nz0 | exact ae_nz1 | exact ae_fz0 | exact ae_fz1 | exact cI_na (by omega) | exact cI_ix (by omega) | exact cI_nn (by omega) | exact cI_nz (by omega) | exact cI_cp (by omega) | assumption | omega) only [s_X6_init_0, s_X6_init_1, s_X6_init_4, s_X6_init_5, s_X6_init_8, s_X6_init_9, s_X6_init_11, s_X6_init_14, s_X6_init_17, s_X6_init_18, s_X6_init_21, s_X6_init_22, s_X6_init_24, s_X6_init_27, s_X6_init_30, s_X6_init_31, s_X6_init_34, s_X6_init_35, s_X6_init_36, s_X6_init_39, s_X6_init_42, s_X6_init_43, s_X6_init_45, s_X6_init_47, s_X6_init_50, s_X6_init_51, s_X6_init_54, s_X6_init_55, s_X6_init_58, s_X6_init_61, s_X6_init_62, s_X6_init_65, s_X6_init_66, s_X6_init_69, s_X6_init_72, s_X6_init_73, s_X6_init_74, s_X6_init_77, s_X6_init_78, s_X6_init_79, s_X6_init_82, s_X6_init_83, s_X6_init_84, s_X6_init_87, e_X6_init, og_0, og_1, og_2, og_3, og_4, og_5, og_6, og_7, og_8, og_9, og_10, og_11, og_12, op_6, op_8, op_9, op_10, op_11, op_12, dg_0, dg_1, dg_2, dg_3, dp_1, dp_2, dp_3, ng_b, ng_d, mz_m, ms_m, ov_2, nset_d, nset_b, uI_1, uI_2, uR_1, uR_21, uR_22, va_rf, Bool.false_eq_true, ae_Ki, ae_Kb, ae_Kj, ae_Ka, ae_Si, ae_Sb, ae_Sj, ae_Sn, List.getElem?_cons_succ, List.getElem?_cons_zero, ↓reduceIte, if_true, if_false, nI_ofNat, true_or, or_true, false_or, or_false, true_and, and_true, false_and, and_false, or_self, and_self, not_true_eq_false, not_false_eq_true, eq_self, List.length_cons, List.length_nil, Nat.reduceAdd, Nat.reduceLT, Nat.reduceSub, List.set_cons_succ, List.set_cons_zero, Option.toList, List.nil_append, List.cons_append, cI_ltT, cI_ltF, cI_leT, cI_leF, cI_eqT, cI_eqF, cI_cl, cN_leT, cN_leF, cN_ltT, cN_ltF, cN_eqT, cN_eqF, cI_add, cI_sub, cI_m1a, cI_m1b, cI_m1c, cI_m1d, cI_m1e, cI_m1f, hcl, n0, y0, op0, hX1, n1, y1, op1, hX2, n2, y2, op2, hX3, n3, y3, op3, hX4, n4, y4, op4, hX5, n5, y5, op5, hX6, p1, p2, p3]
  · rw [L _ (by omega), L0 _ (by omega) (by omega)]; exact r0.1
  · rw [L _ (by omega), L0 _ (by omega) (by omega)]; exact r0.2
  · rw [L _ (by omega), L1 _ (by omega) (by omega)]; exact r1.1
  · rw [L _ (by omega), L1 _ (by omega) (by omega)]; exact r1.2
  · rw [L _ (by omega), L2 _ (by omega) (by omega)]; exact r2.1
  · rw [L _ (by omega), L2 _ (by omega) (by omega)]; exact r2.2
  · rw [L _ (by omega), L3 _ (by omega) (by omega)]; exact r3
  · rw [L _ (by omega), L4 _ (by omega) (by omega)]; exact r4.1
  · rw [L _ (by omega), L4 _ (by omega) (by omega)]; exact r4.2.1
  · rw [L _ (by omega), L4 _ (by omega) (by omega)]; exact r4.2.2
  · rw [L _ (by omega), L5 _ (by omega) (by omega)]; exact r5.1
  · rw [L _ (by omega), L5 _ (by omega) (by omega)]; exact r5.2.1
  · rw [L _ (by omega), L5 _ (by omega) (by omega)]; exact r5.2.2
  · rw [L _ (by omega), L0 _ (by omega) (by omega), b0 _ (by omega), e3 b hb]
end INS
