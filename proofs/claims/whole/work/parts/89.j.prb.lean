/-! NarrowSolver$Solver: empty, begin; NarrowSolver.problem -/
theorem kpm_svb (tp : List Nat) (mn : Nat) (h : tp.length ≤ 120) : kpm ([], [], nI 0, nI 0, nI 0, nI 0) tp unk mn 10 = svb tp mn := by
  unfold kpm svb
  rw [if_neg (by rw [unk_len]; simp; omega)]
  rfl
section PRB
variable {d : Nat} {Q : Option Value → ah_H → Prop} {G : ah_H} {x c p : Nat} {P : Nat → Option Nat} {y : rS} {fw : Nat} {v : sV} {A : Nat → Nat} {ns : Nat} {ar fn : Nat → Int32} {F : Nat → Bool} {tp : List Nat}
theorem m_X6_empty (hS : cS G x P c p y fw v) : ∃ G2 y2, (∀ Q, ae_wm (d + 1) mX6_empty [.ref (x + 15)] G Q = Q none G2) ∧ cS G2 x P c p y2 0 ([], [], nI 0, nI 0, nI 0, nI 0) ∧ frT G G2 x P P 0 := by
  obtain ⟨p1, p2, p3, p4, p5⟩ := cS_p hS
  have hS0 := hS
  obtain ⟨s1, s2, s3, s4, s5, s6, s7, s8, s9⟩ := hS0
  obtain ⟨B, hB⟩ := s8
  have g15 : G.1 (x + 15) = some (.inr (6, of6 x c p y)) := by rw [s4]; exact ov_15
  have hfr : ∀ a, a ≠ x + 16 → a ≠ x + 18 → (ah_set (ah_set G (x + 16) (.inr (3, [.ref (x + 17), .int (nI 0), .int (nI 0)]))) (x + 18) (.inr (3, [.ref (x + 19), .int (nI 0), .int (nI 0)]))).1 a = G.1 a := fun a h1 h2 => by rw [hs_ne h2, hs_ne h1]
  have gR := fun Q => m_X3_empty (d := d) (Q := Q) s5.1
  have hZ1 : ring (ah_set G (x + 16) (.inr (3, [.ref (x + 17), .int (nI 0), .int (nI 0)]))) (x + 18) 30 (fun i => if i < 30 then P (40 + i) else none) 0 v.2.1.length := ⟨by rw [hs_ne (by omega)]; exact s6.1.1, by rw [hs_ne (by omega)]; exact s6.1.2⟩
  have gZ := fun Q => m_X3_empty (d := d) (Q := Q) hZ1
  generalize hG1 : ah_set (ah_set G (x + 16) (.inr (3, [.ref (x + 17), .int (nI 0), .int (nI 0)]))) (x + 18) (.inr (3, [.ref (x + 19), .int (nI 0), .int (nI 0)])) = G1 at *
  have h2 : G1.2 = G.2 := by rw [← hG1]; rfl
  have hsam : ∀ i a, P i = some a → sam G G1 a := fun i a hi => by
    have := s3.2 i a hi
    exact ⟨hfr _ (by omega) (by omega), hfr _ (by omega) (by omega), hfr _ (by omega) (by omega)⟩
  have hS1 : cS G1 x P c p y 0 ([], [], y.1 9, y.1 10, y.1 11, y.1 12) := by
    refine ⟨s1, s2, ⟨s3.1, fun i a hi => ⟨(s3.2 i a hi).1, by rw [h2]; exact (s3.2 i a hi).2.1, psh_sam (hsam i a hi) (s3.2 i a hi).2.2⟩⟩, ov_mk ?_ ?_ ?_ ?_ ?_ ?_ ?_, ⟨⟨?_, ?_⟩, by decide, by simp, fun i hi => by simp at hi⟩, ⟨⟨?_, ?_⟩, by simp, fun i hi => by simp at hi⟩, ⟨rfl, rfl, rfl, rfl⟩, ⟨B, hB⟩, by rw [h2]; exact s9⟩
    · rw [hfr _ (by omega) (by omega)]; exact g15
    · rw [hfr _ (by omega) (by omega), s4]; exact ov_20
    · rw [hfr _ (by omega) (by omega), s4]; exact ov_21
    · rw [hfr _ (by omega) (by omega), s4]; exact ov_22
    · rw [hfr _ (by omega) (by omega), s4]; exact ov_p p1
    · rw [hfr _ (by omega) (by omega), s4]; exact ov_p1 p1
    · rw [hfr _ (by omega) (by omega), s4]; exact ov_p2 p1
    · rw [← hG1, hs_ne (by omega), hs_eq rfl]; rfl
    · rw [hfr _ (by omega) (by omega)]; exact s5.1.2
    · rw [← hG1, hs_eq rfl]; rfl
    · rw [hfr _ (by omega) (by omega)]; exact s6.1.2
  obtain ⟨k1, k2⟩ := cS_y (y2 := uI (uI (uI (uI y 9 (nI 0)) 10 (nI 0)) 11 (nI 0)) 12 (nI 0)) (v2 := ([], [], nI 0, nI 0, nI 0, nI 0)) hS1 rfl rfl ⟨by simp [uI], by simp [uI], by simp [uI], by simp [uI]⟩ ⟨B, hB⟩
  have hs41 := hS1.2.2.2.1
  refine ⟨_, _, fun Q => ?_, k1, frT_trans (k := 0) (k2 := 0) (G2 := G1) (P2 := P) ⟨fun b h3 h4 h5 => hfr b (by omega) (by omega), ⟨by rw [h2]; rfl, by rw [h2]; rfl, by rw [h2], rfl⟩, fun i b hi => Or.inl ⟨i, hi⟩⟩ (frT_of k2)⟩
  have o2 : ∀ K, ae_gw G (x + 15) 6 2 K = K (.ref (x + 16)) := fun K => by unfold ae_gw; rw [g15]; rfl
  have o3 : ∀ K, ae_gw (ah_set G (x + 16) (.inr (3, [.ref (x + 17), .int (nI 0), .int (nI 0)]))) (x + 15) 6 3 K = K (.ref (x + 18)) := fun K => by unfold ae_gw; rw [hs_ne (by omega), g15]; rfl
  have hx : ae_wp (d + 1) mX6_empty 14 [some (.ref (x + 15))] [] (ov G1 x c p y) Q = Q none (ov G1 x c p (uI (uI (uI (uI y 9 (nI 0)) 10 (nI 0)) 11 (nI 0)) 12 (nI 0))) := by
    simp (disch := first | exact ae_isR_ref _ | exact ae_isR_null | exact ae_isR_rf _ | exact ae_cat_ref _ | exact ae_cat_int _ | exact ae_cat_null | exact ae_cat_rf _ | exact ae_nz0 | exact ae_nz1 | exact ae_fz0 | exact ae_fz1 | exact cI_na (by omega) | exact cI_ix (by omega) | exact cI_nn (by omega) | exact cI_nz (by omega) | exact cI_cp (by omega) | assumption | omega) only [s_X6_empty_14, s_X6_empty_15, s_X6_empty_16, s_X6_empty_19, s_X6_empty_20, s_X6_empty_21, s_X6_empty_24, s_X6_empty_25, s_X6_empty_26, s_X6_empty_29, s_X6_empty_30, s_X6_empty_31, s_X6_empty_34, og_0, og_1, og_2, og_3, og_4, og_5, og_6, og_7, og_8, og_9, og_10, og_11, og_12, op_6, op_8, op_9, op_10, op_11, op_12, dg_0, dg_1, dg_2, dg_3, dp_1, dp_2, dp_3, ng_b, ng_d, mz_m, ms_m, ov_2, nset_d, nset_b, uI_1, uI_2, uR_1, uR_21, uR_22, va_rf, Bool.false_eq_true, ae_Ki, ae_Kb, ae_Kj, ae_Ka, ae_Si, ae_Sb, ae_Sj, ae_Sn, List.getElem?_cons_succ, List.getElem?_cons_zero, ↓reduceIte, if_true, if_false, nI_ofNat, true_or, or_true, false_or, or_false, true_and, and_true, false_and, and_false, or_self, and_self, not_true_eq_false, not_false_eq_true, eq_self, List.length_cons, List.length_nil, Nat.reduceAdd, Nat.reduceLT, Nat.reduceSub, List.set_cons_succ, List.set_cons_zero, Option.toList, List.nil_append, List.cons_append, cI_ltT, cI_ltF, cI_leT, cI_leF, cI_eqT, cI_eqF, cI_cl, cN_leT, cN_leF, cN_ltT, cN_ltF, cN_eqT, cN_eqF, cI_add, cI_sub, cI_m1a, cI_m1b, cI_m1c, cI_m1d, cI_m1e, cI_m1f]
  rw [← hs41] at hx
  have hy : ae_wm (d + 1) mX6_empty [.ref (x + 15)] G Q = ae_wp (d + 1) mX6_empty 14 [some (.ref (x + 15))] [] G1 Q := by
    simp (disch := first | exact ae_isR_ref _ | exact ae_isR_null | exact ae_isR_rf _ | exact ae_cat_ref _ | exact ae_cat_int _ | exact ae_cat_null | exact ae_cat_rf _ | exact ae_nz0 | exact ae_nz1 | exact ae_fz0 | exact ae_fz1 | exact cI_na (by omega) | exact cI_ix (by omega) | exact cI_nn (by omega) | exact cI_nz (by omega) | exact cI_cp (by omega) | assumption | omega) only [s_X6_empty_0, s_X6_empty_1, s_X6_empty_4 s5.1.1, s_X6_empty_7, s_X6_empty_8, s_X6_empty_11 hZ1.1, e_X6_empty, og_0, og_1, og_2, og_3, og_4, og_5, og_6, og_7, og_8, og_9, og_10, og_11, og_12, op_6, op_8, op_9, op_10, op_11, op_12, dg_0, dg_1, dg_2, dg_3, dp_1, dp_2, dp_3, ng_b, ng_d, mz_m, ms_m, ov_2, nset_d, nset_b, uI_1, uI_2, uR_1, uR_21, uR_22, va_rf, Bool.false_eq_true, ae_Ki, ae_Kb, ae_Kj, ae_Ka, ae_Si, ae_Sb, ae_Sj, ae_Sn, List.getElem?_cons_succ, List.getElem?_cons_zero, ↓reduceIte, if_true, if_false, nI_ofNat, true_or, or_true, false_or, or_false, true_and, and_true, false_and, and_false, or_self, and_self, not_true_eq_false, not_false_eq_true, eq_self, List.length_cons, List.length_nil, Nat.reduceAdd, Nat.reduceLT, Nat.reduceSub, List.set_cons_succ, List.set_cons_zero, Option.toList, List.nil_append, List.cons_append, cI_ltT, cI_ltF, cI_leT, cI_leF, cI_eqT, cI_eqF, cI_cl, cN_leT, cN_leF, cN_ltT, cN_ltF, cN_eqT, cN_eqF, cI_add, cI_sub, cI_m1a, cI_m1b, cI_m1c, cI_m1d, cI_m1e, cI_m1f, o2, gR, o3, gZ, hG1]
  rw [hy]
  exact hx
theorem m_X6_bg_loop {H : ah_H} (hp : x + 22 < p) {l1 l2 : Option Value} : ∀ (m u : Nat) (L : List Nat) (y : rS), u + m = 10 → dr y L → L.length + m < 1000 → ∃ y2, (∀ Q, ae_wp (d + 1) mX6_begin 60 [some (.ref (x + 15)), l1, l2, some (.int (nI u))] [] (ov H x c p y) Q = ae_wp (d + 1) mX6_begin 86 [some (.ref (x + 15)), l1, l2, some (.int (nI 10))] [] (ov H x c p y2) Q) ∧ dr y2 (L ++ unk.drop u) ∧ frm y y2 [31] [2] [] := by
  intro m
  induction m with
  | zero =>
    intro u L y hu hd hL
    have e : u = 10 := by omega
    subst e
    refine ⟨y, fun Q => ?_, by rw [show unk.drop 10 = [] from rfl, List.append_nil]; exact hd, frm_refl _ _ _ _⟩
    simp (disch := first | exact ae_isR_ref _ | exact ae_isR_null | exact ae_isR_rf _ | exact ae_cat_ref _ | exact ae_cat_int _ | exact ae_cat_null | exact ae_cat_rf _ | exact ae_nz0 | exact ae_nz1 | exact ae_fz0 | exact ae_fz1 | exact cI_na (by omega) | exact cI_ix (by omega) | exact cI_nn (by omega) | exact cI_nz (by omega) | exact cI_cp (by omega) | assumption | omega) only [s_X6_begin_60, s_X6_begin_61, s_X6_begin_63, og_0, og_1, og_2, og_3, og_4, og_5, og_6, og_7, og_8, og_9, og_10, og_11, og_12, op_6, op_8, op_9, op_10, op_11, op_12, dg_0, dg_1, dg_2, dg_3, dp_1, dp_2, dp_3, ng_b, ng_d, mz_m, ms_m, ov_2, nset_d, nset_b, uI_1, uI_2, uR_1, uR_21, uR_22, va_rf, Bool.false_eq_true, ae_Ki, ae_Kb, ae_Kj, ae_Ka, ae_Si, ae_Sb, ae_Sj, ae_Sn, List.getElem?_cons_succ, List.getElem?_cons_zero, ↓reduceIte, if_true, if_false, nI_ofNat, true_or, or_true, false_or, or_false, true_and, and_true, false_and, and_false, or_self, and_self, not_true_eq_false, not_false_eq_true, eq_self, List.length_cons, List.length_nil, Nat.reduceAdd, Nat.reduceLT, Nat.reduceSub, List.set_cons_succ, List.set_cons_zero, Option.toList, List.nil_append, List.cons_append, cI_ltT, cI_ltF, cI_leT, cI_leF, cI_eqT, cI_eqF, cI_cl, cN_leT, cN_leF, cN_ltT, cN_ltF, cN_eqT, cN_eqF, cI_add, cI_sub, cI_m1a, cI_m1b, cI_m1c, cI_m1d, cI_m1e, cI_m1f]
  | succ m ih =>
    intro u L y hu hd hL
    obtain ⟨sz, s1, s2⟩ := hd
    have hss := s2.1
    have gP := fun Q => m_X1_put (d := d) (Q := Q) (v := nI (100 + u)) (nmb_d (H := H) (c := c) hp s1) (by omega) (by omega)
    simp only [nset_d hp] at gP
    obtain ⟨y2, i1, i2, i3⟩ := ih (u + 1) (L ++ [100 + u]) (uI (uR y 2 (if sz < 300 then upd (y.2.1 2) sz (nI (100 + u)) else y.2.1 2)) 31 (nI (sz + 1))) (by omega) ⟨sz + 1, by simp [uI], by
      have := drn_put (v := 100 + u) s2
      simpa [uI, uR] using this⟩ (by simp only [List.length_append, List.length_cons, List.length_nil]; omega)
    refine ⟨y2, fun Q => ?_, ?_, frm_trans (s2 := uI (uR y 2 (if sz < 300 then upd (y.2.1 2) sz (nI (100 + u)) else y.2.1 2)) 31 (nI (sz + 1))) ⟨fun t ht => ?_, fun t ht => ?_, fun _ _ => rfl⟩ i3⟩
    · refine Eq.trans ?_ (s_X6_begin_83.trans (i1 Q))
      simp (disch := first | exact ae_isR_ref _ | exact ae_isR_null | exact ae_isR_rf _ | exact ae_cat_ref _ | exact ae_cat_int _ | exact ae_cat_null | exact ae_cat_rf _ | exact ae_nz0 | exact ae_nz1 | exact ae_fz0 | exact ae_fz1 | exact cI_na (by omega) | exact cI_ix (by omega) | exact cI_nn (by omega) | exact cI_nz (by omega) | exact cI_cp (by omega) | assumption | omega) only [s_X6_begin_60, s_X6_begin_61, s_X6_begin_63, s_X6_begin_66, s_X6_begin_67, s_X6_begin_70, s_X6_begin_73, s_X6_begin_75, s_X6_begin_76, s_X6_begin_77 (ov_p1 hp), s_X6_begin_80, og_0, og_1, og_2, og_3, og_4, og_5, og_6, og_7, og_8, og_9, og_10, og_11, og_12, op_6, op_8, op_9, op_10, op_11, op_12, dg_0, dg_1, dg_2, dg_3, dp_1, dp_2, dp_3, ng_b, ng_d, mz_m, ms_m, ov_2, nset_d, nset_b, uI_1, uI_2, uR_1, uR_21, uR_22, va_rf, Bool.false_eq_true, ae_Ki, ae_Kb, ae_Kj, ae_Ka, ae_Si, ae_Sb, ae_Sj, ae_Sn, List.getElem?_cons_succ, List.getElem?_cons_zero, ↓reduceIte, if_true, if_false, nI_ofNat, true_or, or_true, false_or, or_false, true_and, and_true, false_and, and_false, or_self, and_self, not_true_eq_false, not_false_eq_true, eq_self, List.length_cons, List.length_nil, Nat.reduceAdd, Nat.reduceLT, Nat.reduceSub, List.set_cons_succ, List.set_cons_zero, Option.toList, List.nil_append, List.cons_append, cI_ltT, cI_ltF, cI_leT, cI_leF, cI_eqT, cI_eqF, cI_cl, cN_leT, cN_leF, cN_ltT, cN_ltF, cN_eqT, cN_eqF, cI_add, cI_sub, cI_m1a, cI_m1b, cI_m1c, cI_m1d, cI_m1e, cI_m1f, gP]
    · have e2 : ∀ k, k < 10 → unk.getD k 0 = 100 + k := by decide
      rw [drop_cons (by rw [unk_len]; omega), e2 u (by omega), List.append_cons]
      exact i2
    · simp only [List.mem_cons, List.not_mem_nil, or_false] at ht
      simp [uI, uR, ht]
    · simp only [List.mem_cons, List.not_mem_nil, or_false] at ht
      simp [uI, uR, ht]
theorem m_X6_begin (hS : cS G x P c p y fw v) (ht : tpk G x tp) {mn : Nat} (hmn : mn < 1000) (h0 : mn = 0 → tp = []) : ∃ G2 P2 p2 y2 k, (∀ Q, ae_wm (d + 4) mX6_begin [.ref (x + 15), .ref (x + 4), .int (nI mn)] G Q = Q none G2) ∧ cS G2 x P2 c p2 y2 0 (svb tp mn) ∧ frT G G2 x P P2 k := by
  obtain ⟨g, t1, t2, t3, t4⟩ := ht
  have g15 : G.1 (x + 15) = some (.inr (6, of6 x c p y)) := by rw [hS.2.2.2.1]; exact ov_15
  obtain ⟨G1, y1, a1, a2, a3⟩ := m_X6_empty (d := d + 2) hS
  obtain ⟨p1, p2, p3, p4, p5⟩ := cS_p a2
  have hS0 := hS
  have s3 := hS.2.2.1
  have s9 := hS.2.2.2.2.2.2.2.2
  have hE4 : ∀ b, b = x + 4 ∨ b = x + 5 → G1.1 b = G.1 b := fun b hb => a3.1 b (by omega) (by omega) (fun i b2 hi => by have := s3.2 i b2 hi; omega)
  have a20 := a2
  obtain ⟨s1, s2, s3', s4, s5, s6, s7, s8, s9'⟩ := a20
  obtain ⟨B, hB⟩ := s8
  obtain ⟨L0, sz0, hz1, hz2⟩ := dr_any y1
  have gE := fun Q => m_X1_empty (d := d + 3) (Q := Q) (nmb_d (H := G1) (c := c) p1 hz1)
  simp only [nset_d p1, uR_same] at gE
  have hz : (uI y1 31 (nI 0)).1 31 = nI 0 := by simp [uI]
  have hnt : ∀ yy, nmb (ov G1 x c p yy) (x + 4) 120 g tp.length := fun yy => ⟨by rw [ov_out (by omega), hE4 _ (Or.inl rfl)]; exact t1.1, by rw [show x + 4 + 1 = x + 5 from rfl, ov_out (by omega), hE4 _ (Or.inr rfl)]; exact t1.2⟩
  obtain ⟨f2, sz2, b1, b2, b3⟩ := m_X1_putAll (d := d + 2) (h := ov G1 x c p (uI y1 31 (nI 0))) (q := p + 1) (o := x + 4) (m := 120) (g := g) (l := tp) (nmb_d p1 hz) (by omega) (by omega) (hnt _) (by omega) t2 t3 (by omega) (i := 0) (j := tp.length) (by omega) (by omega)
  simp only [nset_d p1] at b1
  have b2 := b2 [] (drn_nil _ _)
  rw [sl_all, List.nil_append] at b2
  obtain ⟨y3, c1, c2, c3⟩ := m_X6_bg_loop (d := d + 3) (c := c) (H := G1) p1 (l1 := some (.ref (x + 4))) (l2 := some (.int (nI mn))) 10 0 tp (uI (uI (uI (uI (uR (uI y1 31 (nI 0)) 2 f2) 31 (nI sz2)) 20 (nI mn)) 21 (nI tp.length)) 22 (nI 10)) (by omega) ⟨sz2, by simp [uI], by simpa [uI, uR] using b2⟩ (by omega)
  rw [List.drop_zero] at c2
  have hrd : rdy y3 tp unk mn 10 := ⟨c2, by rw [c3.1 20 (by decide)]; simp [uI], by rw [c3.1 22 (by decide)]; simp [uI], tp.length, by rw [c3.1 21 (by decide)]; simp [uI], fun _ => rfl⟩
  have hyc : ∀ i, i = 9 ∨ i = 10 ∨ i = 11 ∨ i = 12 → y3.1 i = y1.1 i := fun i hi => by
    rcases hi with z | z | z | z <;> subst z <;> rw [c3.1 _ (by decide)] <;> simp [uI, uR]
  obtain ⟨k1, k2⟩ := cS_y (y2 := y3) (v2 := ([], [], nI 0, nI 0, nI 0, nI 0)) a2 rfl rfl ⟨by rw [hyc 9 (by simp)]; exact s7.1, by rw [hyc 10 (by simp)]; exact s7.2.1, by rw [hyc 11 (by simp)]; exact s7.2.2.1, by rw [hyc 12 (by simp)]; exact s7.2.2.2⟩ ⟨B, by
    refine bd_frm c3 (by decide) (by decide) ⟨?_, ?_, hB.2.2⟩
    · simpa [uI, uR] using hB.1
    · simpa [uI, uR] using hB.2.1⟩
  obtain ⟨G4, P4, p4', y4, k4, d1, d2, d3⟩ := m_X6_deliver (d := d) k1 hrd (by decide) hmn h0 (by rw [List.length_append, unk_len]; omega)
  rw [kpm_svb tp mn t3] at d2
  refine ⟨G4, P4, p4', y4, k4, fun Q => ?_, d2, ?_⟩
  · have hx : ae_wp (d + 4) mX6_begin 4 [some (.ref (x + 15)), some (.ref (x + 4)), some (.int (nI mn)), none] [] (ov G1 x c p y1) Q = Q none G4 := by
      have hsz : ∀ yy (K : Value → Prop), ae_gw (ov G1 x c p yy) (x + 4) 1 1 K = K (.int (nI tp.length)) := fun yy K => by unfold ae_gw; rw [(hnt yy).1]; rfl
      simp (disch := first | exact ae_isR_ref _ | exact ae_isR_null | exact ae_isR_rf _ | exact ae_cat_ref _ | exact ae_cat_int _ | exact ae_cat_null | exact ae_cat_rf _ | exact ae_nz0 | exact ae_nz1 | exact ae_fz0 | exact ae_fz1 | exact cI_na (by omega) | exact cI_ix (by omega) | exact cI_nn (by omega) | exact cI_nz (by omega) | exact cI_cp (by omega) | assumption | omega) only [s_X6_begin_4, s_X6_begin_5, s_X6_begin_8, s_X6_begin_11 (ov_p1 p1), s_X6_begin_14, s_X6_begin_15, s_X6_begin_18, s_X6_begin_21, s_X6_begin_22, s_X6_begin_23, s_X6_begin_24, s_X6_begin_27 (ov_p1 p1), s_X6_begin_30, s_X6_begin_31, s_X6_begin_34, s_X6_begin_35, s_X6_begin_38, s_X6_begin_39, s_X6_begin_42, s_X6_begin_43, s_X6_begin_46, s_X6_begin_49, s_X6_begin_50, s_X6_begin_53, s_X6_begin_55, s_X6_begin_58, s_X6_begin_59, c1, s_X6_begin_86, s_X6_begin_87 ov_15, s_X6_begin_90, og_0, og_1, og_2, og_3, og_4, og_5, og_6, og_7, og_8, og_9, og_10, og_11, og_12, op_6, op_8, op_9, op_10, op_11, op_12, dg_0, dg_1, dg_2, dg_3, dp_1, dp_2, dp_3, ng_b, ng_d, mz_m, ms_m, ov_2, nset_d, nset_b, uI_1, uI_2, uR_1, uR_21, uR_22, va_rf, Bool.false_eq_true, ae_Ki, ae_Kb, ae_Kj, ae_Ka, ae_Si, ae_Sb, ae_Sj, ae_Sn, List.getElem?_cons_succ, List.getElem?_cons_zero, ↓reduceIte, if_true, if_false, nI_ofNat, true_or, or_true, false_or, or_false, true_and, and_true, false_and, and_false, or_self, and_self, not_true_eq_false, not_false_eq_true, eq_self, List.length_cons, List.length_nil, Nat.reduceAdd, Nat.reduceLT, Nat.reduceSub, List.set_cons_succ, List.set_cons_zero, Option.toList, List.nil_append, List.cons_append, cI_ltT, cI_ltF, cI_leT, cI_leF, cI_eqT, cI_eqF, cI_cl, cN_leT, cN_leF, cN_ltT, cN_ltF, cN_eqT, cN_eqF, cI_add, cI_sub, cI_m1a, cI_m1b, cI_m1c, cI_m1d, cI_m1e, cI_m1f, gE, hsz, b1, d1]
    rw [← s4] at hx
    have hy : ae_wm (d + 4) mX6_begin [.ref (x + 15), .ref (x + 4), .int (nI mn)] G Q = ae_wp (d + 4) mX6_begin 4 [some (.ref (x + 15)), some (.ref (x + 4)), some (.int (nI mn)), none] [] G1 Q := by
      simp (disch := first | exact ae_isR_ref _ | exact ae_isR_null | exact ae_isR_rf _ | exact ae_cat_ref _ | exact ae_cat_int _ | exact ae_cat_null | exact ae_cat_rf _ | exact ae_nz0 | exact ae_nz1 | exact ae_fz0 | exact ae_fz1 | exact cI_na (by omega) | exact cI_ix (by omega) | exact cI_nn (by omega) | exact cI_nz (by omega) | exact cI_cp (by omega) | assumption | omega) only [s_X6_begin_0, s_X6_begin_1 g15, e_X6_begin, og_0, og_1, og_2, og_3, og_4, og_5, og_6, og_7, og_8, og_9, og_10, og_11, og_12, op_6, op_8, op_9, op_10, op_11, op_12, dg_0, dg_1, dg_2, dg_3, dp_1, dp_2, dp_3, ng_b, ng_d, mz_m, ms_m, ov_2, nset_d, nset_b, uI_1, uI_2, uR_1, uR_21, uR_22, va_rf, Bool.false_eq_true, ae_Ki, ae_Kb, ae_Kj, ae_Ka, ae_Si, ae_Sb, ae_Sj, ae_Sn, List.getElem?_cons_succ, List.getElem?_cons_zero, ↓reduceIte, if_true, if_false, nI_ofNat, true_or, or_true, false_or, or_false, true_and, and_true, false_and, and_false, or_self, and_self, not_true_eq_false, not_false_eq_true, eq_self, List.length_cons, List.length_nil, Nat.reduceAdd, Nat.reduceLT, Nat.reduceSub, List.set_cons_succ, List.set_cons_zero, Option.toList, List.nil_append, List.cons_append, cI_ltT, cI_ltF, cI_leT, cI_leF, cI_eqT, cI_eqF, cI_cl, cN_leT, cN_leF, cN_ltT, cN_ltF, cN_eqT, cN_eqF, cI_add, cI_sub, cI_m1a, cI_m1b, cI_m1c, cI_m1d, cI_m1e, cI_m1f, a1]
    rw [hy]
    exact hx
  · have := frT_trans a3 (frT_trans (frT_of k2) (frT_of d3))
    simpa using this
end PRB
