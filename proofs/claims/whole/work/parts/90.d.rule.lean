/-! NarrowSolver.rule -/
section RUL
variable {d : Nat} {Q : Option Value → ah_H → Prop} {G G2 : ah_H} {x b ns : Nat} {A : Nat → Nat} {F : Nat → Bool} {tp : List Nat} {rl : mR} {v : sV} {P : Nat → Option Nat} {c p : Nat} {y : rS} {fw : Nat} {ar fn : Nat → Int32} {ro : Nat → Nat} {sp : Nat} {lf tf : Nat → Option Nat} {T : List Nat} {nn cc : Nat → Nat} {fe : Nat → Option Nat} {B1 B2 j : Nat}
/-- the tape, the symbols: cells x + 1 .. x + 5 -/
theorem cix_low {ns2 : Nat} {A2 : Nat → Nat} {F2 : Nat → Bool} {tp2 : List Nat} {ar2 fn2 : Nat → Int32} (h : cix G x ns A F tp rl v P c p y fw ar fn ro sp lf tf T nn cc fe) (hc : ∀ a, a < x + 1 ∨ x + 5 < a → G2.1 a = G.1 a) (h2 : G2.2 = G.2) (hs : sym G2 (x + 1) ns2 ar2 fn2 ∧ arl A2 ns2 ar2 ∧ fnl F2 ns2 fn2) (ht : tpk G2 x tp2) (hr : rsK G x A2 ns2 rl ro sp lf tf T nn cc) : cix G2 x ns2 A2 F2 tp2 rl v P c p y fw ar2 fn2 ro sp lf tf T nn cc fe ∧ kep G G2 x x ∧ (∀ a, a < x → G2.1 a = G.1 a) := by
  obtain ⟨h1, -, h3, h4, h5, h6, h7⟩ := h
  have h6' := h6
  obtain ⟨x1, x2, x3, x4, x5, x6⟩ := h6'
  have hea : G2.1 G.2.2.2.1 = G.1 G.2.2.2.1 := hc _ (by omega)
  have hn : G.2.1 ≤ G2.2.1 := by rw [h2]; exact Nat.le_refl _
  have h22 : G2.2.2.2 = G.2.2.2 := by rw [h2]
  have hnp : ∀ i b, P i = some b → x + 22 < b := fun i b hi => (h4.2.2.1.2 i b hi).1.1
  refine ⟨⟨(hc x (by omega)).trans h1, hs, ht, cS_cg (fun a q1 q2 => hc a (by omega)) (fun i b hi => ?_) hn h4, rsK_cg hr (fun a ha => ?_) (fun _ _ => rfl) hea hn h22, rsx_cg h6 hea hn h22, h7⟩, ⟨fun a q1 q2 => hc a (by omega), hc x (by omega)⟩, fun a ha => hc a (by omega)⟩
  · have := hnp i b hi
    exact ⟨hc _ (by omega), hc _ (by omega), hc _ (by omega)⟩
  · refine hc a ?_
    rcases ha with z | z | z
    · omega
    · omega
    · by_cases w : a < x + 1 ∨ x + 5 < a
      · exact w
      · have := x2 a (by omega) (by omega) (by omega) (by omega)
        omega
/-- the tape is emptied -/
theorem CIz_tape (h : CIz G x b ns A F tp rl v B1 B2 j) : ∃ g, (∀ Q d, ae_wm d mX1_empty [.ref (x + 4)] G Q = Q none (nset G (x + 4) 120 g 0)) ∧ CIz (nset G (x + 4) 120 g 0) x b ns A F [] rl v B1 B2 j ∧ kep G (nset G (x + 4) 120 g 0) x b := by
  obtain ⟨P, c, p, y, fw, ar, fn, ro, sp, lf, tf, T, nn, cc, fe, hc, hl, hb, hbx⟩ := h
  obtain ⟨g, t1, t2, t3, t4⟩ := hc.2.2.1
  have tp2 : tpk (nset G (x + 4) 120 g 0) x [] := ⟨g, nset_nmb _ _ _ _ _, fun i hi => absurd hi (Nat.not_lt_zero _), by simp, fun i hi => absurd hi (Nat.not_lt_zero _)⟩
  obtain ⟨k1, k2, k3⟩ := cix_low (G2 := nset G (x + 4) 120 g 0) hc (fun a ha => nset_ne ⟨by omega, by omega⟩) rfl ⟨sym_cg3 (fun a q1 q2 => nset_ne ⟨by omega, by omega⟩) hc.2.1.1, hc.2.1.2⟩ tp2 hc.2.2.2.2.1
  exact ⟨g, fun Q d => m_X1_empty t1, ⟨P, c, p, y, fw, ar, fn, ro, sp, lf, tf, T, nn, cc, fe, k1, hl, hb, hbx⟩, k2.1, k3 b hbx⟩
theorem m_X10_rule_bad {w : Int32} (h : CIz G x b ns A F tp rl v B1 B2 j) (hw : ruf A F ns tp rl.length = w) (hn : w < nI 0) : ∃ G2, (∀ Q, ae_wm (d + 11) mX10_rule [.ref x] G Q = Q (some (.int w)) G2) ∧ CIz G2 x b ns A F [] rl v B1 B2 j ∧ kep G G2 x b := by
  obtain ⟨g, g1, g2, g3⟩ := CIz_tape h
  obtain ⟨P, c, p, y, fw, ar, fn, ro, sp, lf, tf, T, nn, cc, fe, hc, hl, hb, hbx⟩ := h
  obtain ⟨h1, ⟨h2, h2a, h2f⟩, h3, h4, h5, h6, h7⟩ := hc
  have o1 : ∀ K, ae_gw G x 10 1 K = K (.ref (x + 4)) := fun K => by unfold ae_gw; rw [h1]; rfl
  have o2 : ∀ K, ae_gw G x 10 2 K = K (.ref (x + 6)) := fun K => by unfold ae_gw; rw [h1]; rfl
  have g1' := fun Q => g1 Q (d + 10)
  obtain ⟨g0, t1, -⟩ := id h3
  have t11 := t1.1
  have c6 := h5.1.1
  have ge := fun Q => m_X10_endOnTape (d := d + 9) (Q := Q) h1 h2 h2a h3 (i := 0) (Nat.zero_le _)
  have hwn : (w = nI 0) = False := ng_ne hn
  refine ⟨_, fun Q => ?_, g2, g3⟩
  unfold ruf at hw
  cases e0 : rdt A ns tp 0 with
  | inl v0 =>
    rw [e0] at hw ge
    have hw : v0 = w := hw
    subst hw
    have e1 : rdv (Sum.inl v0) = v0 := rfl
    rw [e1] at ge
    have hlt := ng_le hn
    simp (disch := first | exact ae_isR_ref _ | exact ae_isR_null | exact ae_isR_rf _ | exact ae_cat_ref _ | exact ae_cat_int _ | exact ae_cat_null | exact ae_cat_rf _ | exact ae_nz0 | exact ae_nz1 | exact ae_fz0 | exact ae_fz1 | exact cI_na (by omega) | exact cI_ix (by omega) | exact cI_nn (by omega) | exact cI_nz (by omega) | exact cI_cp (by omega) | assumption | omega) only [s_X10_rule_0, s_X10_rule_1, s_X10_rule_2 h1, s_X10_rule_5, s_X10_rule_6, s_X10_rule_7, s_X10_rule_10, s_X10_rule_11, s_X10_rule_14, s_X10_rule_15, s_X10_rule_16, s_X10_rule_19, s_X10_rule_20, s_X10_rule_21, s_X10_rule_24, s_X10_rule_25, s_X10_rule_28, s_X10_rule_29, s_X10_rule_32, s_X10_rule_33, s_X10_rule_36, s_X10_rule_37, s_X10_rule_38, s_X10_rule_41 t11, s_X10_rule_44, s_X10_rule_45, e_X10_rule, og_0, og_1, og_2, og_3, og_4, og_5, og_6, og_7, og_8, og_9, og_10, og_11, og_12, op_6, op_8, op_9, op_10, op_11, op_12, dg_0, dg_1, dg_2, dg_3, dp_1, dp_2, dp_3, ng_b, ng_d, mz_m, ms_m, ov_2, nset_d, nset_b, uI_1, uI_2, uR_1, uR_21, uR_22, va_rf, Bool.false_eq_true, ae_Ki, ae_Kb, ae_Kj, ae_Ka, ae_Si, ae_Sb, ae_Sj, ae_Sn, List.getElem?_cons_succ, List.getElem?_cons_zero, ↓reduceIte, if_true, if_false, nI_ofNat, true_or, or_true, false_or, or_false, true_and, and_true, false_and, and_false, or_self, and_self, not_true_eq_false, not_false_eq_true, eq_self, List.length_cons, List.length_nil, Nat.reduceAdd, Nat.reduceLT, Nat.reduceSub, List.set_cons_succ, List.set_cons_zero, Option.toList, List.nil_append, List.cons_append, cI_ltT, cI_ltF, cI_leT, cI_leF, cI_eqT, cI_eqF, cI_cl, cN_leT, cN_leF, cN_ltT, cN_ltF, cN_eqT, cN_eqF, cI_add, cI_sub, cI_m1a, cI_m1b, cI_m1c, cI_m1d, cI_m1e, cI_m1f, ge, o1, hlt, hwn, g1']
  | inr l =>
    rw [e0] at hw ge
    have e1 : rdv (Sum.inr l) = nI l := rfl
    rw [e1] at ge
    have hll : l ≤ tp.length := (rdo_inr _ _ _ _ (by omega) e0).2.1
    have htl : tp.length ≤ 120 := by obtain ⟨_, _, _, t3, _⟩ := h3; exact t3
    have gf := fun Q => m_X10_faultOfRule (d := d + 7) (Q := Q) h1 h2 h2a h2f h3 e0
    have hw : (match rdt A ns tp l with
      | .inl v => v
      | .inr e => if e < tp.length then -13 else fot F tp l rl.length) = w := hw
    by_cases hz : (match rdt A ns tp l with
      | .inl v => v
      | .inr e => if e < tp.length then -13 else fot F tp l 0) = nI 0
    · -- all is well but the room
      cases e2 : rdt A ns tp l with
      | inl v1 =>
        rw [e2] at hw hz
        have hw : v1 = w := hw
        have hz : v1 = nI 0 := hz
        rw [← hw, hz] at hn
        exact absurd hn (by decide +kernel)
      | inr e =>
        rw [e2] at hw hz gf
        dsimp only at hw hz gf
        by_cases c1 : e < tp.length
        · rw [if_pos c1] at hz
          exact absurd hz (by decide +kernel)
        · rw [if_neg c1] at hw hz gf
          rw [fot_0, if_pos hz] at hw
          rw [hz] at gf
          by_cases c2 : rl.length = 40
          · rw [if_pos c2] at hw
            subst hw
            have gx := fun Q => m_X5_add_full (d := d + 10) (Q := Q) (v := nI l) h5 c2
            simp (disch := first | exact ae_isR_ref _ | exact ae_isR_null | exact ae_isR_rf _ | exact ae_cat_ref _ | exact ae_cat_int _ | exact ae_cat_null | exact ae_cat_rf _ | exact ae_nz0 | exact ae_nz1 | exact ae_fz0 | exact ae_fz1 | exact cI_na (by omega) | exact cI_ix (by omega) | exact cI_nn (by omega) | exact cI_nz (by omega) | exact cI_cp (by omega) | assumption | omega) only [s_X10_rule_0, s_X10_rule_1, s_X10_rule_2 h1, s_X10_rule_5, s_X10_rule_6, s_X10_rule_7, s_X10_rule_10, s_X10_rule_11, s_X10_rule_14, s_X10_rule_15, s_X10_rule_16 h1, s_X10_rule_19, s_X10_rule_20, s_X10_rule_21, s_X10_rule_24, s_X10_rule_25, s_X10_rule_28, s_X10_rule_29, s_X10_rule_32, s_X10_rule_33 c6, s_X10_rule_36, s_X10_rule_37, s_X10_rule_38, s_X10_rule_41 t11, s_X10_rule_44, s_X10_rule_45, e_X10_rule, og_0, og_1, og_2, og_3, og_4, og_5, og_6, og_7, og_8, og_9, og_10, og_11, og_12, op_6, op_8, op_9, op_10, op_11, op_12, dg_0, dg_1, dg_2, dg_3, dp_1, dp_2, dp_3, ng_b, ng_d, mz_m, ms_m, ov_2, nset_d, nset_b, uI_1, uI_2, uR_1, uR_21, uR_22, va_rf, Bool.false_eq_true, ae_Ki, ae_Kb, ae_Kj, ae_Ka, ae_Si, ae_Sb, ae_Sj, ae_Sn, List.getElem?_cons_succ, List.getElem?_cons_zero, ↓reduceIte, if_true, if_false, nI_ofNat, true_or, or_true, false_or, or_false, true_and, and_true, false_and, and_false, or_self, and_self, not_true_eq_false, not_false_eq_true, eq_self, List.length_cons, List.length_nil, Nat.reduceAdd, Nat.reduceLT, Nat.reduceSub, List.set_cons_succ, List.set_cons_zero, Option.toList, List.nil_append, List.cons_append, cI_ltT, cI_ltF, cI_leT, cI_leF, cI_eqT, cI_eqF, cI_cl, cN_leT, cN_leF, cN_ltT, cN_ltF, cN_eqT, cN_eqF, cI_add, cI_sub, cI_m1a, cI_m1b, cI_m1c, cI_m1d, cI_m1e, cI_m1f, ge, gf, gx, o1, o2, g1']
          · rw [if_neg c2] at hw
            rw [← hw] at hn
            exact absurd hn (by decide +kernel)
    · have hsame : (match rdt A ns tp l with
        | .inl v => v
        | .inr e => if e < tp.length then -13 else fot F tp l 0) = w := by
        cases e2 : rdt A ns tp l with
        | inl v1 => rw [e2] at hw; exact hw
        | inr e =>
          rw [e2] at hw hz
          dsimp only at hw hz ⊢
          by_cases c1 : e < tp.length
          · rw [if_pos c1] at hw ⊢; exact hw
          · rw [if_neg c1] at hw hz ⊢
            rw [fot_0, if_neg hz] at hw
            exact hw
      have gf2 : ∀ Q, ae_wm (d + 10) mX10_faultOfRule [.ref x, .int (nI l)] G Q = Q (some (.int w)) G := fun Q => (gf Q).trans (congrArg (fun z => Q (some (.int z)) G) hsame)
      simp (disch := first | exact ae_isR_ref _ | exact ae_isR_null | exact ae_isR_rf _ | exact ae_cat_ref _ | exact ae_cat_int _ | exact ae_cat_null | exact ae_cat_rf _ | exact ae_nz0 | exact ae_nz1 | exact ae_fz0 | exact ae_fz1 | exact cI_na (by omega) | exact cI_ix (by omega) | exact cI_nn (by omega) | exact cI_nz (by omega) | exact cI_cp (by omega) | assumption | omega) only [s_X10_rule_0, s_X10_rule_1, s_X10_rule_2 h1, s_X10_rule_5, s_X10_rule_6, s_X10_rule_7, s_X10_rule_10, s_X10_rule_11, s_X10_rule_14, s_X10_rule_15, s_X10_rule_16 h1, s_X10_rule_19, s_X10_rule_20, s_X10_rule_21, s_X10_rule_24, s_X10_rule_25, s_X10_rule_28, s_X10_rule_29, s_X10_rule_32, s_X10_rule_33, s_X10_rule_36, s_X10_rule_37, s_X10_rule_38, s_X10_rule_41 t11, s_X10_rule_44, s_X10_rule_45, e_X10_rule, og_0, og_1, og_2, og_3, og_4, og_5, og_6, og_7, og_8, og_9, og_10, og_11, og_12, op_6, op_8, op_9, op_10, op_11, op_12, dg_0, dg_1, dg_2, dg_3, dp_1, dp_2, dp_3, ng_b, ng_d, mz_m, ms_m, ov_2, nset_d, nset_b, uI_1, uI_2, uR_1, uR_21, uR_22, va_rf, Bool.false_eq_true, ae_Ki, ae_Kb, ae_Kj, ae_Ka, ae_Si, ae_Sb, ae_Sj, ae_Sn, List.getElem?_cons_succ, List.getElem?_cons_zero, ↓reduceIte, if_true, if_false, nI_ofNat, true_or, or_true, false_or, or_false, true_and, and_true, false_and, and_false, or_self, and_self, not_true_eq_false, not_false_eq_true, eq_self, List.length_cons, List.length_nil, Nat.reduceAdd, Nat.reduceLT, Nat.reduceSub, List.set_cons_succ, List.set_cons_zero, Option.toList, List.nil_append, List.cons_append, cI_ltT, cI_ltF, cI_leT, cI_leF, cI_eqT, cI_eqF, cI_cl, cN_leT, cN_leF, cN_ltT, cN_ltF, cN_eqT, cN_eqF, cI_add, cI_sub, cI_m1a, cI_m1b, cI_m1c, cI_m1d, cI_m1e, cI_m1f, ge, gf2, o1, hwn, g1']
theorem rfr_cix {sp2 : Nat} {lf2 tf2 : Nat → Option Nat} {T2 : List Nat} {nn2 cc2 : Nat → Nat} {rl2 : mR} {ro2 : Nat → Nat} (h : cix G x ns A F tp rl v P c p y fw ar fn ro sp lf tf T nn cc fe) (hr : rsK G2 x A ns rl2 ro2 sp2 lf2 tf2 T2 nn2 cc2) (hf : rfr G G2 x ro ro2) : cix G2 x ns A F tp rl2 v P c p y fw ar fn ro2 sp2 lf2 tf2 T2 nn2 cc2 fe ∧ (∀ a, a < G.2.1 → ro a = 0 → (a < x ∨ x + 22 < a) → G2.1 a = G.1 a) := by
  obtain ⟨h1, h2, h3, h4, h5, h6, h7⟩ := h
  have h6' := h6
  obtain ⟨x1, x2, x3, x4, x5, x6⟩ := h6'
  obtain ⟨f1, f2, f3, f4, f5, f6⟩ := hf
  have z : ∀ k, k ≤ 22 → k ≠ 9 → k ≠ 10 → ro (x + k) = 0 := fun k h1 h2 h3 => x2 _ (by omega) (by omega) (by omega) (by omega)
  have hfx : ∀ k, k ≤ 22 → k ≠ 9 → k ≠ 10 → ¬ (6 ≤ k ∧ k ≤ 8) → ¬ (12 ≤ k ∧ k ≤ 14) → G2.1 (x + k) = G.1 (x + k) := fun k q1 q2 q3 q4 q5 => f1 _ (by omega) (by rw [z k q1 q2 q3]; omega) (by omega) (by omega)
  have hea : G2.1 G.2.2.2.1 = G.1 G.2.2.2.1 := f1 _ (by omega) (by rw [x5]; omega) (by omega) (by omega)
  have hN := h4.2.2.2.2.2.2.2.2
  refine ⟨⟨(hfx 0 (by omega) (by omega) (by omega) (by omega) (by omega)).trans h1, ⟨⟨by rw [hfx 1 (by omega) (by omega) (by omega) (by omega) (by omega)]; exact h2.1.1, by rw [hfx 2 (by omega) (by omega) (by omega) (by omega) (by omega)]; exact h2.1.2.1, by rw [hfx 3 (by omega) (by omega) (by omega) (by omega) (by omega)]; exact h2.1.2.2⟩, h2.2⟩, tpk_cg (hfx 4 (by omega) (by omega) (by omega) (by omega) (by omega)) (hfx 5 (by omega) (by omega) (by omega) (by omega) (by omega)) h3, cS_cg (fun a q1 q2 => ?_) (fun i b hi => ?_) f5 h4, hr, ⟨f4, fun a q1 q2 q3 q4 => ?_, by omega, by rw [f6, hea]; exact x4, by rw [f6, f2 _ (by omega)]; exact x5, by rw [f6]; exact x6⟩, fun i b hi => ?_, fun a q1 q2 => ?_⟩, fun a q1 q2 q3 => f1 a q1 (by omega) (by omega) (by omega)⟩
  · obtain ⟨k, hk⟩ : ∃ k, a = x + k := ⟨a - x, by omega⟩
    rw [hk]
    exact hfx k (by omega) (by omega) (by omega) (by omega) (by omega)
  · obtain ⟨p1, p2, p3⟩ := h7.1 i b hi
    obtain ⟨⟨b1, b2⟩, b3, -⟩ := h4.2.2.1.2 i b hi
    exact ⟨f1 _ (by omega) (by omega) (by omega) (by omega), f1 _ (by omega) (by omega) (by omega) (by omega), f1 _ (by omega) (by omega) (by omega) (by omega)⟩
  · rw [f2 a (by omega)]; exact x2 a q1 q2 q3 q4
  · obtain ⟨p1, p2, p3⟩ := h7.1 i b hi
    obtain ⟨⟨b1, b2⟩, b3, -⟩ := h4.2.2.1.2 i b hi
    rw [f2 _ (by omega), f2 _ (by omega), f2 _ (by omega)]
    exact ⟨p1, p2, p3⟩
  · rw [f2 a (by omega)]; exact h7.2 a q1 q2
theorem m_X10_rule_ok {l : Nat} (h : CIz G x b ns A F tp rl v B1 B2 j) (hg : rgo ns A rl) (h0 : rdt A ns tp 0 = .inr l) (h1 : rdt A ns tp l = .inr tp.length) (hfo : fot F tp l rl.length = nI 0) : ∃ G2, (∀ Q, ae_wm (d + 11) mX10_rule [.ref x] G Q = Q (some (.int (match ltr A (rl ++ [(tp, l)]) ns (tp.getD 0 0) with
    | none => -19
    | some _ => nI rl.length))) G2) ∧ CIz G2 x b ns A F [] (match ltr A (rl ++ [(tp, l)]) ns (tp.getD 0 0) with
    | none => rl
    | some _ => rl ++ [(tp, l)]) v B1 B2 (j + 1) ∧ kep G G2 x b := by
  obtain ⟨P, c, p, y, fw, ar, fn, ro, sp, lf, tf, T, nn, cc, fe, hc, hl, hb, hbx⟩ := h
  have hc0 := hc
  obtain ⟨k1, ⟨k2, k2a, k2f⟩, k3, k4, k5, k6, k7⟩ := hc
  obtain ⟨d1, d2, d3, d4, d5⟩ := rdt_two h0 h1
  obtain ⟨f1, f2, f3, f4, f5⟩ := fot_ng hfo
  have htl : tp.length ≤ 120 := by obtain ⟨_, _, _, t3, _⟩ := k3; exact t3
  have hf : tp.getD 0 0 < ns := by
    by_cases w : tp.getD 0 0 < ns
    · exact w
    · rw [k2f.2 _ (by omega)] at f1; cases f1
  have hlen : rl.length < 40 := by have := hg.1; omega
  have hgx := rgo_app hg hlen htl (kn1_knw d2) d1 d3
  have o1 : ∀ K, ae_gw G x 10 1 K = K (.ref (x + 4)) := fun K => by unfold ae_gw; rw [k1]; rfl
  have o2 : ∀ K, ae_gw G x 10 2 K = K (.ref (x + 6)) := fun K => by unfold ae_gw; rw [k1]; rfl
  have ge := fun Q => m_X10_endOnTape (d := d + 9) (Q := Q) k1 k2 k2a k3 (i := 0) (Nat.zero_le _)
  rw [h0] at ge
  have e1 : rdv (Sum.inr l) = nI l := rfl
  rw [e1] at ge
  have gf := fun Q => m_X10_faultOfRule (d := d + 7) (Q := Q) k1 k2 k2a k2f k3 h0
  rw [h1] at gf
  dsimp only at gf
  have hfo0 : fot F tp l 0 = nI 0 := by
    rw [fot_0] at hfo
    by_cases w : fot F tp l 0 = nI 0
    · exact w
    · rw [if_neg w] at hfo; exact hfo
  rw [if_neg (by omega), hfo0] at gf
  have c6 := k5.1.1
  have hN := k4.2.2.2.2.2.2.2.2
  have fin1 : ∀ (H : ah_H) (w : Int32) (rl2 : mR), (∀ Q, ae_wm (d + 10) mX5_add [.ref (x + 6), .ref (x + 4), .int (nI l)] G Q = Q (some (.int w)) H) → CIz H x b ns A F tp rl2 v B1 B2 (j + 1) → kep G H x b → ∃ G2, (∀ Q, ae_wm (d + 11) mX10_rule [.ref x] G Q = Q (some (.int w)) G2) ∧ CIz G2 x b ns A F [] rl2 v B1 B2 (j + 1) ∧ kep G G2 x b := by
    intro H w rl2 q1 q2 q3
    obtain ⟨g, g1, g2, g3⟩ := CIz_tape q2
    refine ⟨_, fun Q => ?_, g2, kep_trans q3 g3⟩
    obtain ⟨_, _, _, _, _, _, _, _, _, _, _, _, _, _, _, hcH, -⟩ := q2
    have fH := hcH.1
    obtain ⟨gt, tH, -⟩ := hcH.2.2.1
    have tH1 := tH.1
    have oH : ∀ K, ae_gw H x 10 1 K = K (.ref (x + 4)) := fun K => by unfold ae_gw; rw [fH]; rfl
    have g1' := fun Q => g1 Q (d + 10)
    simp (disch := first | exact ae_isR_ref _ | exact ae_isR_null | exact ae_isR_rf _ | exact ae_cat_ref _ | exact ae_cat_int _ | exact ae_cat_null | exact ae_cat_rf _ | exact ae_nz0 | exact ae_nz1 | exact ae_fz0 | exact ae_fz1 | exact cI_na (by omega) | exact cI_ix (by omega) | exact cI_nn (by omega) | exact cI_nz (by omega) | exact cI_cp (by omega) | assumption | omega) only [s_X10_rule_0, s_X10_rule_1, s_X10_rule_2 k1, s_X10_rule_5, s_X10_rule_6, s_X10_rule_7, s_X10_rule_10, s_X10_rule_11, s_X10_rule_14, s_X10_rule_15, s_X10_rule_16 k1, s_X10_rule_19, s_X10_rule_20, s_X10_rule_21, s_X10_rule_24, s_X10_rule_25, s_X10_rule_28, s_X10_rule_29, s_X10_rule_32, s_X10_rule_33 c6, s_X10_rule_36, s_X10_rule_37, s_X10_rule_38, s_X10_rule_41 tH1, s_X10_rule_44, s_X10_rule_45, e_X10_rule, og_0, og_1, og_2, og_3, og_4, og_5, og_6, og_7, og_8, og_9, og_10, og_11, og_12, op_6, op_8, op_9, op_10, op_11, op_12, dg_0, dg_1, dg_2, dg_3, dp_1, dp_2, dp_3, ng_b, ng_d, mz_m, ms_m, ov_2, nset_d, nset_b, uI_1, uI_2, uR_1, uR_21, uR_22, va_rf, Bool.false_eq_true, ae_Ki, ae_Kb, ae_Kj, ae_Ka, ae_Si, ae_Sb, ae_Sj, ae_Sn, List.getElem?_cons_succ, List.getElem?_cons_zero, ↓reduceIte, if_true, if_false, nI_ofNat, true_or, or_true, false_or, or_false, true_and, and_true, false_and, and_false, or_self, and_self, not_true_eq_false, not_false_eq_true, eq_self, List.length_cons, List.length_nil, Nat.reduceAdd, Nat.reduceLT, Nat.reduceSub, List.set_cons_succ, List.set_cons_zero, Option.toList, List.nil_append, List.cons_append, cI_ltT, cI_ltF, cI_leT, cI_leF, cI_eqT, cI_eqF, cI_cl, cN_leT, cN_leF, cN_ltT, cN_ltF, cN_eqT, cN_eqF, cI_add, cI_sub, cI_m1a, cI_m1b, cI_m1c, cI_m1d, cI_m1e, cI_m1f, ge, gf, o1, o2, q1, oH, g1']
  have mk : ∀ (H : ah_H) (rl2 : mR) (ro2 : Nat → Nat) (sp2 : Nat) (lf2 tf2 : Nat → Option Nat) (T2 : List Nat) (nn2 cc2 : Nat → Nat), rsK H x A ns rl2 ro2 sp2 lf2 tf2 T2 nn2 cc2 → rfr G H x ro ro2 → acc G T nn cc H T2 nn2 cc2 → CIz H x b ns A F tp rl2 v B1 B2 (j + 1) ∧ kep G H x b := by
    intro H rl2 ro2 sp2 lf2 tf2 T2 nn2 cc2 q1 q2 q3
    obtain ⟨r1, r2⟩ := rfr_cix hc0 q1 q2
    obtain ⟨l1, l2⟩ := hl
    obtain ⟨a1, a2⟩ := q3
    refine ⟨⟨P, c, p, y, fw, ar, fn, ro2, sp2, lf2, tf2, T2, nn2, cc2, fe, r1, ⟨by omega, by omega⟩, ?_, hbx⟩, fun a w1 w2 => r2 a (by omega) (k7.2 a w1 w2) (by omega), r2 b (by omega) hb (by omega)⟩
    rw [q2.2.1 b (by omega)]; exact hb
  cases hlt : ltr A (rl ++ [(tp, l)]) ns (tp.getD 0 0) with
  | none =>
    obtain ⟨H, ro2, lf2, nn2, cc2, q1, q2, q3, q4⟩ := m_X5_add_no (d := d) k5 k6 hlen k3 d4 d5 k2a k2 hf hgx hlt
    obtain ⟨w1, w2⟩ := mk H rl ro2 sp lf2 tf T nn2 cc2 q2 q3 q4
    exact fin1 H (-19) rl q1 w1 w2
  | some L =>
    obtain ⟨H, ro2, sp2, lf2, tf2, T2, nn2, cc2, q1, q2, q3, q4⟩ := m_X5_add_yes (d := d) k5 k6 hlen k3 d4 d5 k2a k2 hf hg hgx hlt
    obtain ⟨w1, w2⟩ := mk H _ ro2 sp2 lf2 tf2 T2 nn2 cc2 q2 q3 q4
    exact fin1 H (nI rl.length) _ q1 w1 w2
end RUL
