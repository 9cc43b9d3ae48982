/-! NarrowSolver$TreeMaker.make as a whole -/
section MKE
variable {d : Nat} {Q : Option Value → ah_H → Prop} {E : Nat → Prop} {G : ah_H} {x t f0 : Nat} {S0 : Int64} {A : Nat → Nat} {ns : Nat} {ar fn : Nat → Int32} {rl : mR}
theorem mk_end {i : Nat} {l7 : Option Value} (hi : i < 9600) : ae_wp (d + 9) mX9_make 50 (mkl x t f0 S0 .null i l7) [] G Q = Q (some (.int (nI 1))) G := by
  unfold mkl
  simp (disch := first | exact ae_isR_ref _ | exact ae_isR_null | exact ae_isR_rf _ | exact ae_cat_ref _ | exact ae_cat_int _ | exact ae_cat_null | exact ae_cat_rf _ | exact ae_nz0 | exact ae_nz1 | exact ae_fz0 | exact ae_fz1 | exact cI_na (by omega) | exact cI_ix (by omega) | exact cI_nn (by omega) | exact cI_nz (by omega) | exact cI_cp (by omega) | assumption | omega) only [s_X9_make_50, s_X9_make_52, s_X9_make_55, s_X9_make_58, s_X9_make_60_N, s_X9_make_60, s_X9_make_123, s_X9_make_125, s_X9_make_125_N, s_X9_make_128, s_X9_make_129, s_X9_make_132, s_X9_make_133, og_0, og_1, og_2, og_3, og_4, og_5, og_6, og_7, og_8, og_9, og_10, og_11, og_12, op_6, op_8, op_9, op_10, op_11, op_12, dg_0, dg_1, dg_2, dg_3, dp_1, dp_2, dp_3, ng_b, ng_d, mz_m, ms_m, ov_2, nset_d, nset_b, uI_1, uI_2, uR_1, uR_21, uR_22, va_rf, Bool.false_eq_true, ae_Ki, ae_Kb, ae_Kj, ae_Ka, ae_Si, ae_Sb, ae_Sj, ae_Sn, List.getElem?_cons_succ, List.getElem?_cons_zero, ↓reduceIte, if_true, if_false, nI_ofNat, true_or, or_true, false_or, or_false, true_and, and_true, false_and, and_false, or_self, and_self, not_true_eq_false, not_false_eq_true, eq_self, List.length_cons, List.length_nil, Nat.reduceAdd, Nat.reduceLT, Nat.reduceSub, List.set_cons_succ, List.set_cons_zero, Option.toList, List.nil_append, List.cons_append, cI_ltT, cI_ltF, cI_leT, cI_leF, cI_eqT, cI_eqF, cI_cl, cN_leT, cN_leF, cN_ltT, cN_ltF, cN_eqT, cN_eqF, cI_add, cI_sub, cI_m1a, cI_m1b, cI_m1c, cI_m1d, cI_m1e, cI_m1f]
theorem pcm_bgn (hf : f0 < 24) : pcm (bgn A f0) = f0 :: (List.replicate (A f0) 100 ++ []) := by
  unfold pcm bgn
  rw [List.map_cons, List.map_replicate, if_neg (by omega), if_pos rfl, List.append_nil]
/-- the first node, before it is settled -/
theorem m_X9_make_a {e nn cap sz0 : Nat} {ad : Nat → Option Nat} {S : Int64} (hk : mkr E G x ns A ar fn rl) {f1 : Nat → Int32} (h14 : G.1 (x + 14) = some (.inl (1, 120, .inl f1))) (hx : x + 14 < G.2.1) {l0 : List Nat} (hpt : pat G x l0) (hb : trb E G t e nn cap ad sz0) (hf : f0 < ns) : ∃ H e2 n2 cap2 ad2 a, (∀ Q, ae_wm (d + 9) mX9_make [.ref (x + 11), .ref t, .int (nI f0), .long S] G Q = ae_wp (d + 9) mX9_make 36 [some (.ref (x + 11)), some (.ref t), some (.int (nI f0)), some (.long S), none, some (.ref a), none, none] [] H Q) ∧ trb E H t e2 n2 cap2 ad2 1 ∧ ad2 0 = some a ∧ nodA H a (nI 0) (-1) (nI 0) (-1) (nI 0) .null .null S (nI 0) .null .null ∧ (∀ b, E b → H.1 b = G.1 b) ∧ pat H x (pcm (bgn A f0)) ∧ H.1 (x + 14) = some (.inl (1, 120, .inl f1)) ∧ x + 14 < H.2.1 ∧ led G nn cap H n2 cap2 := by
  have hns := hk.2.1.1
  have hb' := hb
  obtain ⟨b1, ⟨⟨mc, b2⟩, b3, b4⟩, b5, b6, b7, b8, b9, b10, b11, b12⟩ := hb'
  obtain ⟨g0, ⟨p1, p2⟩, p3⟩ := hpt
  have p2 : G.1 (x + 13) = _ := p2
  have nt1 : t + 1 ≠ t := by omega
  have nte : e ≠ t := fun z => by rw [z, b1] at b3; cases b3
  have nt12 : x + 12 ≠ t := fun z => by rw [z, b1] at p1; cases p1
  have nt13 : x + 13 ≠ t := fun z => by rw [z, b1] at p2; cases p2
  have nt14 : x + 14 ≠ t := fun z => by rw [z, b1] at h14; cases h14
  have hE0 : ∀ b, E b → (ah_set G t (.inr (8, [.ref (t + 1), .int (nI 0)]))).1 b = G.1 b := fun b hb => hs_ne (fun z => b11.1 (z ▸ hb))
  have t0 : trb E (ah_set G t (.inr (8, [.ref (t + 1), .int (nI 0)]))) t e nn cap ad 0 := ⟨hs_eq rfl, ⟨⟨mc, by rw [hs_ne nt1]; exact b2⟩, by rw [hs_ne nte]; exact b3, b4⟩, Nat.zero_le _, fun i hi => by
    obtain ⟨a, fs, w1, w2, w3⟩ := b6 i hi
    exact ⟨a, fs, w1, by rw [hs_ne (fun z => by rw [z, b1] at w2; cases w2)]; exact w2, w3⟩, b7, b8, b9, b10, b11, b12⟩
  have hk0 : mkr E (ah_set G t (.inr (8, [.ref (t + 1), .int (nI 0)]))) x ns A ar fn rl := mkr_cg hE0 hk
  have n0 : nmb (ah_set G t (.inr (8, [.ref (t + 1), .int (nI 0)]))) (x + 12) 120 g0 l0.length := ⟨by rw [hs_ne nt12]; exact p1, by show (ah_set G t _).1 (x + 13) = _; rw [hs_ne nt13]; exact p2⟩
  have h140 : (ah_set G t (.inr (8, [.ref (t + 1), .int (nI 0)]))).1 (x + 14) = some (.inl (1, 120, .inl f1)) := by rw [hs_ne nt14]; exact h14
  have r0 : (ah_set G t (.inr (8, [.ref (t + 1), .int (nI 0)]))).2 = G.2 := rfl
  have op : ∀ v K, ae_pw G t 8 1 v K = K (ah_set G t (.inr (8, [.ref (t + 1), v]))) := fun v K => by unfold ae_pw; rw [b1]; rfl
  generalize hG0 : ah_set G t (.inr (8, [.ref (t + 1), .int (nI 0)])) = G0 at hE0 t0 hk0 n0 h140 r0
  have ge := fun Q => m_X1_empty (d := d + 8) (Q := Q) n0
  have n1 : nmb (nset G0 (x + 12) 120 g0 0) (x + 12) 120 g0 0 := nset_nmb _ _ _ _ _
  have gp := fun Q => m_X1_put (d := d + 8) (Q := Q) (v := nI 100) n1 (by omega) (by omega)
  rw [if_pos (by omega)] at gp
  have fr1 : frP G0 (nset (nset G0 (x + 12) 120 g0 0) (x + 12) 120 (upd g0 0 (nI 100)) (0 + 1)) x := frP_trans (frP_nset _ _ _ _) (frP_nset _ _ _ _)
  have pt1 : pat (nset (nset G0 (x + 12) 120 g0 0) (x + 12) 120 (upd g0 0 (nI 100)) (0 + 1)) x ([] ++ 100 :: []) := ⟨upd g0 0 (nI 100), nset_nmb _ _ _ _ _, fun i hi => by
    have : i = 0 := by simp at hi; omega
    subst this
    simp [upd], by simp⟩
  have hk1 := frP_mkr fr1 hk0
  have t1 := trb_frP t0 (show pat G0 x l0 from ⟨g0, n0, p3⟩) fr1
  have h141 : (nset (nset G0 (x + 12) 120 g0 0) (x + 12) 120 (upd g0 0 (nI 100)) (0 + 1)).1 (x + 14) = some (.inl (1, 120, .inl f1)) := by rw [fr1.1 _ (by omega) (by omega)]; exact h140
  generalize hH1 : nset (nset G0 (x + 12) 120 g0 0) (x + 12) 120 (upd g0 0 (nI 100)) (0 + 1) = H1 at gp fr1 pt1 hk1 t1 h141
  have hA3 : A f0 ≤ 3 := (hk.2.1.2.1 f0 hf).2
  obtain ⟨G1, u1, u2, u3⟩ := m_X9_unfold (d := d + 7) (c := f0) (z := 100) hk1.2.1 (by omega) (a := []) (b := []) (by simp only [List.length_nil]; omega) hk1.2.2.2.1 hk1.2.2.1 pt1
  rw [List.nil_append, ← pcm_bgn (by omega)] at u2
  have t2 := trb_frP t1 pt1 u3
  have fr2 := frP_trans fr1 u3
  obtain ⟨H, e2, n2, cap2, ad2, a, q1, q2, q3, q4, q5, q6, q7, q8, q9, q10, q11⟩ := m_X8_add_m (d := d + 1) (cn := -1) (S := S) (pa := .null) t2 (by omega) u2 (f0 := f1) (by rw [u3.1 _ (by omega) (by omega)]; exact h141) (by rw [fr2.2, r0]; exact hx) rfl
  have hk2 := frP_mkr u3 hk1
  refine ⟨H, e2, n2, cap2, ad2, a, fun Q => ?_, q2, q3, q5, fun b hEb => ?_, q8, q9, q10, ?_⟩
  · have ht0 := hk0.2.2.2.1
    have o1 : ∀ K, ae_gw G0 (x + 11) 9 2 K = K (.ref (x + 12)) := fun K => by unfold ae_gw; rw [ht0]; rfl
    have hkE := frP_mkr (frP_nset G0 x g0 0) hk0
    have htE := hkE.2.2.2.1
    have o2 : ∀ K, ae_gw (nset G0 (x + 12) 120 g0 0) (x + 11) 9 2 K = K (.ref (x + 12)) := fun K => by unfold ae_gw; rw [htE]; rfl
    have n01 := n0.1
    have n11 := n1.1
    have ht1 := hk1.2.2.2.1
    have t21 := t2.1
    have e0 : ([] : List Nat).length = 0 := rfl
    rw [e0] at u1
    simp (disch := first | exact ae_isR_ref _ | exact ae_isR_null | exact ae_isR_rf _ | exact ae_cat_ref _ | exact ae_cat_int _ | exact ae_cat_null | exact ae_cat_rf _ | exact ae_nz0 | exact ae_nz1 | exact ae_fz0 | exact ae_fz1 | exact cI_na (by omega) | exact cI_ix (by omega) | exact cI_nn (by omega) | exact cI_nz (by omega) | exact cI_cp (by omega) | assumption | omega) only [s_X9_make_0, s_X9_make_1, s_X9_make_2, s_X9_make_5, s_X9_make_6, s_X9_make_9 n01, s_X9_make_12, s_X9_make_13, s_X9_make_16, s_X9_make_18 n11, s_X9_make_21, s_X9_make_22, s_X9_make_23, s_X9_make_24 ht1, s_X9_make_27, s_X9_make_28, s_X9_make_29, s_X9_make_30, e_X9_make, s_X9_make_31_N t21, s_X9_make_34, op, hG0, o1, o2, ge, gp, u1, q1, og_0, og_1, og_2, og_3, og_4, og_5, og_6, og_7, og_8, og_9, og_10, og_11, og_12, op_6, op_8, op_9, op_10, op_11, op_12, dg_0, dg_1, dg_2, dg_3, dp_1, dp_2, dp_3, ng_b, ng_d, mz_m, ms_m, ov_2, nset_d, nset_b, uI_1, uI_2, uR_1, uR_21, uR_22, va_rf, Bool.false_eq_true, ae_Ki, ae_Kb, ae_Kj, ae_Ka, ae_Si, ae_Sb, ae_Sj, ae_Sn, List.getElem?_cons_succ, List.getElem?_cons_zero, ↓reduceIte, if_true, if_false, nI_ofNat, true_or, or_true, false_or, or_false, true_and, and_true, false_and, and_false, or_self, and_self, not_true_eq_false, not_false_eq_true, eq_self, List.length_cons, List.length_nil, Nat.reduceAdd, Nat.reduceLT, Nat.reduceSub, List.set_cons_succ, List.set_cons_zero, Option.toList, List.nil_append, List.cons_append, cI_ltT, cI_ltF, cI_leT, cI_leF, cI_eqT, cI_eqF, cI_cl, cN_leT, cN_leF, cN_ltT, cN_ltF, cN_eqT, cN_eqF, cI_add, cI_sub, cI_m1a, cI_m1b, cI_m1c, cI_m1d, cI_m1e, cI_m1f]
  · rw [q7 b hEb, fr2.1 b (fun z => hk.1.2.2.2.2.2.1 (z ▸ hEb)) (fun z => hk.1.2.2.2.2.2.2.1 (z ▸ hEb)), hE0 b hEb]
  · obtain ⟨l1, l2, l3, l4, l5⟩ := q11
    rw [fr2.2, r0] at l1 l2 l4 l5
    exact ⟨l1, l2, l3, l4, l5⟩
theorem m_X9_make {e nn cap sz0 : Nat} {ad : Nat → Option Nat} (hk : mkr E G x ns A ar fn rl) (hA3 : ∀ x, A x ≤ 3) (h14 : ∃ f1, G.1 (x + 14) = some (.inl (1, 120, .inl f1))) (hx : x + 14 < G.2.1) {l0 : List Nat} (hpt : pat G x l0) (hb : trb E G t e nn cap ad sz0) (hf : f0 < ns) (hr : rof rl f0 ≠ 0) : match lay A rl ns 120 (bgn A f0) (rof rl f0) 0 (-1) 0 with
    | none => ∃ G2 e2 n2 cap2 ad2 sz2 l, (∀ Q, ae_wm (d + 9) mX9_make [.ref (x + 11), .ref t, .int (nI f0), .long (rof rl f0)] G Q = Q (some (.int (nI 0))) G2) ∧ fin E x G G2 ∧ pat G2 x l ∧ trb E G2 t e2 n2 cap2 ad2 sz2 ∧ led G nn cap G2 n2 cap2
    | some L => ∃ G2 e2 n2 cap2 ad2 l, (∀ Q, ae_wm (d + 9) mX9_make [.ref (x + 11), .ref t, .int (nI f0), .long (rof rl f0)] G Q = Q (some (.int (nI 1))) G2) ∧ fin E x G G2 ∧ pat G2 x l ∧ trb E G2 t e2 n2 cap2 ad2 L.length ∧ tnn G2 ad2 A rl ns 120 (bgn A f0) (rof rl f0) 0 (-1) 0 L ∧ led G nn cap G2 n2 cap2 := by
  have hns := hk.2.1.1
  have h99 : A 99 = 0 := hk.2.1.2.2 99 (by omega)
  have hg := hk.2.2.2.2.1
  have hw := bgn_wfp h99 hns hg hf hr
  have hph := (ph_bgn (A := A) (rl := rl) (f := f0) (S := rof rl f0) (ns := ns) (by omega) hg).1
  obtain ⟨f1, h14⟩ := h14
  obtain ⟨H, e2, n2, cap2, ad2, a, q1, q2, q3, q4, q5, q6, q7, q8, q9⟩ := m_X9_make_a (d := d) (S := rof rl f0) hk h14 hx hpt hb hf
  have hk2 : mkr E H x ns A ar fn rl := mkr_cg q5 hk
  have hEa := (trb_cell q2 (Nat.lt_succ_self _) q3).2.2
  obtain ⟨f2, s1⟩ := m_X9_settle (d := d + 4) hk2 q6 hw q7 hEa q4
  have q4' : H.1 a = _ := q4
  have ha14 : a ≠ x + 14 := fun z => by rw [z, q7] at q4'; cases q4'
  have y1 : (shs H x f2).1 a = _ := (shs_ne ha14).trans q4'
  have t3 := trb_nw (fs := nodS A rl (bgn A f0) (rof rl f0) 0 (-1) .null) (trb_shs (f2 := f2) q2 q7) y1 nodS_len
  have p3 := nw_pat (fs := nodS A rl (bgn A f0) (rof rl f0) 0 (-1) .null) y1 (shs_pat q6 f2)
  have c3 : (ah_set (shs H x f2) a (.inr (0, nodS A rl (bgn A f0) (rof rl f0) 0 (-1) .null))).1 a = _ := hs_eq rfl
  have hE3 : ∀ y, E y → (ah_set (shs H x f2) a (.inr (0, nodS A rl (bgn A f0) (rof rl f0) 0 (-1) .null))).1 y = H.1 y := fun y hy => (hs_ne (fun z : y = a => hEa (z ▸ hy))).trans (shs_ne (fun z : y = x + 14 => hk.1.2.2.2.2.2.2.2 (z ▸ hy)))
  have h143 : (ah_set (shs H x f2) a (.inr (0, nodS A rl (bgn A f0) (rof rl f0) 0 (-1) .null))).1 (x + 14) = some (.inl (1, 120, .inl f2)) := by rw [hs_ne (Ne.symm ha14)]; exact hs_eq rfl
  have hr3 : (ah_set (shs H x f2) a (.inr (0, nodS A rl (bgn A f0) (rof rl f0) 0 (-1) .null))).2 = H.2 := rfl
  generalize ah_set (shs H x f2) a (.inr (0, nodS A rl (bgn A f0) (rof rl f0) 0 (-1) .null)) = G3 at s1 t3 p3 c3 hE3 h143 hr3
  have hx3 : x + 14 < G3.2.1 := by rw [hr3]; exact q8
  have fn3 : fin E x G G3 := ⟨fun y hy => (hE3 y hy).trans (q5 y hy), ⟨f2, h143⟩, hx3⟩
  have led3 : led G nn cap G3 n2 cap2 := led_trans q9 (led_refl hr3)
  have hk3 : mkr E G3 x ns A ar fn rl := mkr_cg hE3 hk2
  have ht2 := hk2.2.2.2.1
  by_cases ok : okS A rl (bgn A f0) (rof rl f0) = true
  · rw [if_pos ok] at s1
    have m1 : ∀ Q, ae_wm (d + 9) mX9_make [.ref (x + 11), .ref t, .int (nI f0), .long (rof rl f0)] G Q = ae_wp (d + 9) mX9_make 50 (mkl x t f0 (rof rl f0) (.ref a) 0 none) [] G3 Q := fun Q => by
      rw [q1 Q]
      unfold mkl
      simp (disch := first | exact ae_isR_ref _ | exact ae_isR_null | exact ae_isR_rf _ | exact ae_cat_ref _ | exact ae_cat_int _ | exact ae_cat_null | exact ae_cat_rf _ | exact ae_nz0 | exact ae_nz1 | exact ae_fz0 | exact ae_fz1 | exact cI_na (by omega) | exact cI_ix (by omega) | exact cI_nn (by omega) | exact cI_nz (by omega) | exact cI_cp (by omega) | assumption | omega) only [s_X9_make_36, s_X9_make_37, s_X9_make_39 ht2, s_X9_make_42, s_X9_make_45, s_X9_make_46, s_X9_make_47, s_X9_make_48, s1, og_0, og_1, og_2, og_3, og_4, og_5, og_6, og_7, og_8, og_9, og_10, og_11, og_12, op_6, op_8, op_9, op_10, op_11, op_12, dg_0, dg_1, dg_2, dg_3, dp_1, dp_2, dp_3, ng_b, ng_d, mz_m, ms_m, ov_2, nset_d, nset_b, uI_1, uI_2, uR_1, uR_21, uR_22, va_rf, Bool.false_eq_true, ae_Ki, ae_Kb, ae_Kj, ae_Ka, ae_Si, ae_Sb, ae_Sj, ae_Sn, List.getElem?_cons_succ, List.getElem?_cons_zero, ↓reduceIte, if_true, if_false, nI_ofNat, true_or, or_true, false_or, or_false, true_and, and_true, false_and, and_false, or_self, and_self, not_true_eq_false, not_false_eq_true, eq_self, List.length_cons, List.length_nil, Nat.reduceAdd, Nat.reduceLT, Nat.reduceSub, List.set_cons_succ, List.set_cons_zero, Option.toList, List.nil_append, List.cons_append, cI_ltT, cI_ltF, cI_leT, cI_leF, cI_eqT, cI_eqF, cI_cl, cN_leT, cN_leF, cN_ltT, cN_ltF, cN_eqT, cN_eqF, cI_add, cI_sub, cI_m1a, cI_m1b, cI_m1c, cI_m1d, cI_m1e, cI_m1f]
    have sub := sub_all (d := d) (x := x) (t := t) (f0 := f0) (S0 := rof rl f0) (E := E) (A := A) (ns := ns) (ar := ar) (fn := fn) (rl := rl) hA3 120 (bgn A f0) (rof rl f0) G3 e2 n2 cap2 ad2 0 a 0 (-1) .null (-1) 0 none hw (by rw [bgn_hol A (by omega)]; omega) hk3 ⟨f2, h143⟩ hx3 p3 t3 q3 c3 ok rfl (by omega) (by omega)
    cases hlay : lay A rl ns 120 (bgn A f0) (rof rl f0) 0 (-1) 0 with
    | none =>
      rw [hlay] at sub
      obtain ⟨G4, e4, n4, cap4, ad4, sz4, l, u1, u2, u3, u4, u5⟩ := sub
      exact ⟨G4, e4, n4, cap4, ad4, sz4, l, fun Q => (m1 Q).trans (u1 Q), fin_trans fn3 u2, u3, u4, led_trans led3 u5⟩
    | some L =>
      rw [hlay] at sub
      obtain ⟨G4, e4, n4, cap4, ad4, u1, u2, u3, u4, u5, u6, u7, u8, u9, u10⟩ := sub
      have hll := lay_len h99 hns hg _ _ _ _ _ _ _ hw hlay
      exact ⟨G4, e4, n4, cap4, ad4, _, fun Q => ((m1 Q).trans (u1 Q)).trans (mk_end (by omega)), fin_trans fn3 u2, u3, by rw [Nat.zero_add] at u4; exact u4, u5, led_trans led3 u10⟩
  · rw [if_neg ok] at s1
    have ok' : okS A rl (bgn A f0) (rof rl f0) = false := by simpa using ok
    rw [lay_nok ok']
    refine ⟨G3, e2, n2, cap2, ad2, _, _, fun Q => ?_, fn3, p3, t3, led3⟩
    rw [q1 Q]
    simp (disch := first | exact ae_isR_ref _ | exact ae_isR_null | exact ae_isR_rf _ | exact ae_cat_ref _ | exact ae_cat_int _ | exact ae_cat_null | exact ae_cat_rf _ | exact ae_nz0 | exact ae_nz1 | exact ae_fz0 | exact ae_fz1 | exact cI_na (by omega) | exact cI_ix (by omega) | exact cI_nn (by omega) | exact cI_nz (by omega) | exact cI_cp (by omega) | assumption | omega) only [s_X9_make_36, s_X9_make_37, s_X9_make_39 ht2, s_X9_make_42, s_X9_make_45, s_X9_make_46, s1, og_0, og_1, og_2, og_3, og_4, og_5, og_6, og_7, og_8, og_9, og_10, og_11, og_12, op_6, op_8, op_9, op_10, op_11, op_12, dg_0, dg_1, dg_2, dg_3, dp_1, dp_2, dp_3, ng_b, ng_d, mz_m, ms_m, ov_2, nset_d, nset_b, uI_1, uI_2, uR_1, uR_21, uR_22, va_rf, Bool.false_eq_true, ae_Ki, ae_Kb, ae_Kj, ae_Ka, ae_Si, ae_Sb, ae_Sj, ae_Sn, List.getElem?_cons_succ, List.getElem?_cons_zero, ↓reduceIte, if_true, if_false, nI_ofNat, true_or, or_true, false_or, or_false, true_and, and_true, false_and, and_false, or_self, and_self, not_true_eq_false, not_false_eq_true, eq_self, List.length_cons, List.length_nil, Nat.reduceAdd, Nat.reduceLT, Nat.reduceSub, List.set_cons_succ, List.set_cons_zero, Option.toList, List.nil_append, List.cons_append, cI_ltT, cI_ltF, cI_leT, cI_leF, cI_eqT, cI_eqF, cI_cl, cN_leT, cN_leF, cN_ltT, cN_ltF, cN_eqT, cN_eqF, cI_add, cI_sub, cI_m1a, cI_m1b, cI_m1c, cI_m1d, cI_m1e, cI_m1f]
end MKE
