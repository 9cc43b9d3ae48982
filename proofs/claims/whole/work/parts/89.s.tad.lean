/-! NarrowSolver$Tree.add, NarrowSolver$Node.append -/
def nfs (nm cn pl lr ch : Int32) (fc nx : Value) (S : Int64) (po : Int32) (pa lc : Value) : List Value := [.int nm, .int cn, .int pl, .int lr, .int ch, fc, nx, .long S, .int po, pa, lc]
def nodA (G : ah_H) (a : Nat) (nm cn pl lr ch : Int32) (fc nx : Value) (S : Int64) (po : Int32) (pa lc : Value) : Prop := G.1 a = some (.inr (0, nfs nm cn pl lr ch fc nx S po pa lc))
/-- a tree at t that is being made: E has none of its cells -/
def trb (E : Nat → Prop) (G : ah_H) (t e n cap : Nat) (f : Nat → Option Nat) (sz : Nat) : Prop := G.1 t = some (.inr (8, [.ref (t + 1), .int (nI sz)])) ∧ al G (t + 1) e n cap f ∧ sz ≤ n ∧ (∀ i, i < n → ∃ a fs, f i = some a ∧ G.1 a = some (.inr (0, fs)) ∧ fs.length = 11 ∧ a < G.2.1 ∧ ¬ E a) ∧ (∀ i j a, i < n → j < n → f i = some a → f j = some a → i = j) ∧ (cap = 0 → e = G.2.2.2.1) ∧ (cap ≤ 10 + n + n / 2 ∧ n ≤ 9601) ∧ (t + 1 < G.2.1 ∧ e < G.2.1) ∧ (¬ E t ∧ ¬ E (t + 1) ∧ (¬ E e ∨ cap = 0)) ∧ ∀ a, E a → a < G.2.1
/-- what has been used up -/
def led (G : ah_H) (n cap : Nat) (G2 : ah_H) (n2 cap2 : Nat) : Prop := G2.2.1 + 2 * n ≤ G.2.1 + 2 * n2 ∧ G2.2.2.1 + 4 * cap + 11 * n ≤ G.2.2.1 + 4 * cap2 + 11 * n2 ∧ n ≤ n2 ∧ G.2.1 ≤ G2.2.1 ∧ G2.2.2.2 = G.2.2.2
theorem led_refl {G G2 : ah_H} {n cap : Nat} (h : G2.2 = G.2) : led G n cap G2 n cap := by unfold led; rw [h]; exact ⟨Nat.le_refl _, Nat.le_refl _, Nat.le_refl _, Nat.le_refl _, rfl⟩
theorem led_trans {G G2 G3 : ah_H} {n cap n2 cap2 n3 cap3 : Nat} (h1 : led G n cap G2 n2 cap2) (h2 : led G2 n2 cap2 G3 n3 cap3) : led G n cap G3 n3 cap3 := by
  obtain ⟨a1, a2, a3, a4, a5⟩ := h1
  obtain ⟨b1, b2, b3, b4, b5⟩ := h2
  exact ⟨by omega, by omega, by omega, by omega, b5.trans a5⟩
theorem len11 {fs : List Value} (h : fs.length = 11) : ∃ v0 v1 v2 v3 v4 v5 v6 v7 v8 v9 v10, fs = [v0, v1, v2, v3, v4, v5, v6, v7, v8, v9, v10] := by
  match fs, h with
  | [v0, v1, v2, v3, v4, v5, v6, v7, v8, v9, v10], _ => exact ⟨v0, v1, v2, v3, v4, v5, v6, v7, v8, v9, v10, rfl⟩
section TAD
variable {d : Nat} {Q : Option Value → ah_H → Prop} {E : Nat → Prop} {G : ah_H} {t e n cap : Nat} {f : Nat → Option Nat} {sz : Nat}
theorem m_X8_add_b {cn : Int32} {S : Int64} {pa : Value} {l5 : Option Value} {a : Nat} {fs : List Value} (ht : G.1 t = some (.inr (8, [.ref (t + 1), .int (nI sz)]))) (ha : al G (t + 1) e n cap f) (hs : sz < n) (hf : f sz = some a) (h1 : G.1 a = some (.inr (0, fs))) (h2 : fs.length = 11) (hp : ae_isR pa = true) : ae_wp (d + 3) mX8_add 42 [some (.ref t), some (.int cn), some (.long S), none, some pa, l5] [] G Q = Q (some (.ref a)) (ah_set (ah_set G a (.inr (0, nfs (nI sz) cn (nI 0) (-1) (nI 0) .null .null S (nI 0) pa .null))) t (.inr (8, [.ref (t + 1), .int (nI (sz + 1))]))) := by
  obtain ⟨v0, v1, v2, v3, v4, v5, v6, v7, v8, v9, v10, rfl⟩ := len11 h2
  have hta : t ≠ a := fun z => by rw [z, h1] at ht; cases ht
  have hat : a ≠ t := Ne.symm hta
  have gg := fun Q => m_al_get (d := d) (Q := Q) ha hs
  rw [hf] at gg
  obtain ⟨⟨mc, al1⟩, al2, al3, al4⟩ := ha
  have o0 : ∀ K, ae_gw G t 8 0 K = K (.ref (t + 1)) := fun K => by unfold ae_gw; rw [ht]; rfl
  have o1 : ∀ K, ae_gw G t 8 1 K = K (.int (nI sz)) := fun K => by unfold ae_gw; rw [ht]; rfl
  refine Eq.trans (b := ae_wp (d + 3) mX8_add 67 [some (.ref t), some (.int cn), some (.long S), none, some pa, some (.ref a)] [] (ah_set G a (.inr (0, [.int (nI sz), v1, v2, v3, v4, v5, v6, v7, v8, v9, v10]))) Q) ?_ ?_
  · simp (disch := first | exact ae_isR_ref _ | exact ae_isR_null | exact ae_isR_rf _ | exact ae_cat_ref _ | exact ae_cat_int _ | exact ae_cat_null | exact ae_cat_rf _ | exact ae_nz0 | exact ae_nz1 | exact ae_fz0 | exact ae_fz1 | exact cI_na (by omega) | exact cI_ix (by omega) | exact cI_nn (by omega) | exact cI_nz (by omega) | exact cI_cp (by omega) | assumption | omega) only [s_X8_add_42, s_X8_add_43, s_X8_add_46, s_X8_add_47, s_X8_add_50 al1, gg, s_X8_add_53 h1, s_X8_add_53_N, s_X8_add_56, s_X8_add_58, s_X8_add_60, s_X8_add_61, s_X8_add_64, va_rf, Option.toList, List.cons_append, List.nil_append, o0, o1, ae_pw, h1, List.length_cons, List.length_nil, Nat.reduceAdd, Nat.reduceLT, and_true, true_and, and_self, ↓reduceIte, List.set_cons_zero]
  · simp (disch := first | exact ae_isR_ref _ | exact ae_isR_null | exact ae_isR_rf _ | exact ae_cat_ref _ | exact ae_cat_int _ | exact ae_cat_null | exact ae_cat_rf _ | exact ae_nz0 | exact ae_nz1 | exact ae_fz0 | exact ae_fz1 | exact cI_na (by omega) | exact cI_ix (by omega) | exact cI_nn (by omega) | exact cI_nz (by omega) | exact cI_cp (by omega) | assumption | omega) only [s_X8_add_67, s_X8_add_69, s_X8_add_70, s_X8_add_73, s_X8_add_75, s_X8_add_76, s_X8_add_79, s_X8_add_81, s_X8_add_82, s_X8_add_85, s_X8_add_87, s_X8_add_88, s_X8_add_91, s_X8_add_93, s_X8_add_94, s_X8_add_97, s_X8_add_99, s_X8_add_100, s_X8_add_103, s_X8_add_105, s_X8_add_106, s_X8_add_109, s_X8_add_111, s_X8_add_112, s_X8_add_115, s_X8_add_117, s_X8_add_119, s_X8_add_122, s_X8_add_124, s_X8_add_125, s_X8_add_128, s_X8_add_129, s_X8_add_130, s_X8_add_133, s_X8_add_134, s_X8_add_135, s_X8_add_138, s_X8_add_140, Bool.false_eq_true, ae_gw, ae_pw, ae_zw, ae_Ki, ae_Kb, ae_Kj, ae_Ka, ae_Si, ae_Sb, ae_Sj, ae_Sn, List.getElem?_cons_succ, List.getElem?_cons_zero, ↓reduceIte, if_true, if_false, nI_ofNat, true_or, or_true, false_or, or_false, true_and, and_true, false_and, and_false, or_self, and_self, not_true_eq_false, not_false_eq_true, eq_self, List.length_cons, List.length_nil, Nat.reduceAdd, Nat.reduceLT, Nat.reduceSub, List.set_cons_succ, List.set_cons_zero, Option.toList, List.nil_append, List.cons_append, cI_ltT, cI_ltF, cI_leT, cI_leF, cI_eqT, cI_eqF, cI_cl, cN_leT, cN_leF, cN_ltT, cN_ltF, cN_eqT, cN_eqF, cI_add, cI_sub, cI_m1a, cI_m1b, cI_m1c, cI_m1d, cI_m1e, cI_m1f, hs_eq, hs_ne, hs_2, hs_hs, hn_eq, hn_ne, hn_21, hn_22, hn_23, ht, nfs]
theorem e_X8_add_v {h : ah_H} {cn : Int32} {S : Int64} {pa : Value} (hp : ae_isR pa = true) : ae_wm d mX8_add [.ref t, .int cn, .long S, pa] h Q = ae_wp d mX8_add 0 [some (.ref t), some (.int cn), some (.long S), none, some pa, none] [] h Q := by
  cases pa <;> first | rfl | cases hp
theorem m_X8_add (hb : trb E G t e n cap f sz) (hs : sz ≤ 9600) {cn : Int32} {S : Int64} {pa : Value} (hp : ae_isR pa = true) : ∃ G2 e2 n2 cap2 f2 a, (∀ Q, ae_wm (d + 7) mX8_add [.ref t, .int cn, .long S, pa] G Q = Q (some (.ref a)) G2) ∧ trb E G2 t e2 n2 cap2 f2 (sz + 1) ∧ f2 sz = some a ∧ (∀ i, i < sz → f2 i = f i) ∧ nodA G2 a (nI sz) cn (nI 0) (-1) (nI 0) .null .null S (nI 0) pa .null ∧ (∀ b, b ≠ t → b ≠ t + 1 → b ≠ e ∨ cap = 0 → b ≠ a → b < G.2.1 → G2.1 b = G.1 b) ∧ (G.2.1 ≤ a ∨ ∃ fs, G.1 a = some (.inr (0, fs))) ∧ led G n cap G2 n2 cap2 := by
  obtain ⟨ht, ha, hsn, hN, hinj, h0, hc, hlt, hE, hEb⟩ := hb
  have ha0 := ha
  obtain ⟨⟨mc, al1⟩, al2, al3, al4⟩ := ha0
  have o0 : ∀ K, ae_gw G t 8 0 K = K (.ref (t + 1)) := fun K => by unfold ae_gw; rw [ht]; rfl
  have o1 : ∀ K, ae_gw G t 8 1 K = K (.int (nI sz)) := fun K => by unfold ae_gw; rw [ht]; rfl
  have gs := fun Q => m_al_size (d := d + 6) (Q := Q) ha
  have hte : t ≠ e := fun z => by rw [z, al2] at ht; cases ht
  by_cases c : sz < n
  · obtain ⟨a, fs, a1, a2, a3, a4, a5⟩ := hN sz c
    have hta : t ≠ a := fun z => by rw [z, a2] at ht; cases ht
    have ht1a : t + 1 ≠ a := fun z => by rw [z, a2] at al1; cases al1
    have hea : e ≠ a := fun z => by rw [z, a2] at al2; cases al2
    have gb := fun Q => m_X8_add_b (d := d + 4) (Q := Q) (cn := cn) (S := S) (pa := pa) (l5 := none) ht ha c a1 a2 a3 hp
    refine ⟨ah_set (ah_set G a (.inr (0, nfs (nI sz) cn (nI 0) (-1) (nI 0) .null .null S (nI 0) pa .null))) t (.inr (8, [.ref (t + 1), .int (nI (sz + 1))])), e, n, cap, f, a, fun Q => ?_, ⟨hs_eq rfl, ⟨⟨mc, by rw [hs_ne (by omega), hs_ne ht1a]; exact al1⟩, by rw [hs_ne (Ne.symm hte), hs_ne hea]; exact al2, al3, al4⟩, by omega, fun i hi => ?_, hinj, h0, hc, hlt, hE, hEb⟩, a1, fun _ _ => rfl, (hs_ne (Ne.symm hta)).trans (hs_eq rfl), fun b b1 _ _ b4 _ => by rw [hs_ne b1, hs_ne b4], Or.inr ⟨fs, a2⟩, led_refl rfl⟩
    · have gb := gb Q
      refine (e_X8_add_v hp).trans ?_
      simp (disch := first | exact ae_isR_ref _ | exact ae_isR_null | exact ae_isR_rf _ | exact ae_cat_ref _ | exact ae_cat_int _ | exact ae_cat_null | exact ae_cat_rf _ | exact ae_nz0 | exact ae_nz1 | exact ae_fz0 | exact ae_fz1 | exact cI_na (by omega) | exact cI_ix (by omega) | exact cI_nn (by omega) | exact cI_nz (by omega) | exact cI_cp (by omega) | assumption | omega) only [s_X8_add_0, s_X8_add_1, s_X8_add_4, s_X8_add_5, s_X8_add_8 al1, s_X8_add_11, gs, gb, o0, o1, og_0, og_1, og_2, og_3, og_4, og_5, og_6, og_7, og_8, og_9, og_10, og_11, og_12, op_6, op_8, op_9, op_10, op_11, op_12, dg_0, dg_1, dg_2, dg_3, dp_1, dp_2, dp_3, ng_b, ng_d, mz_m, ms_m, ov_2, nset_d, nset_b, uI_1, uI_2, uR_1, uR_21, uR_22, va_rf, Bool.false_eq_true, ae_Ki, ae_Kb, ae_Kj, ae_Ka, ae_Si, ae_Sb, ae_Sj, ae_Sn, List.getElem?_cons_succ, List.getElem?_cons_zero, ↓reduceIte, if_true, if_false, nI_ofNat, true_or, or_true, false_or, or_false, true_and, and_true, false_and, and_false, or_self, and_self, not_true_eq_false, not_false_eq_true, eq_self, List.length_cons, List.length_nil, Nat.reduceAdd, Nat.reduceLT, Nat.reduceSub, List.set_cons_succ, List.set_cons_zero, Option.toList, List.nil_append, List.cons_append, cI_ltT, cI_ltF, cI_leT, cI_leF, cI_eqT, cI_eqF, cI_cl, cN_leT, cN_leF, cN_ltT, cN_ltF, cN_eqT, cN_eqF, cI_add, cI_sub, cI_m1a, cI_m1b, cI_m1c, cI_m1d, cI_m1e, cI_m1f]
    · obtain ⟨b, fs2, b1, b2, b3, b4, b5⟩ := hN i hi
      by_cases e1 : b = a
      · exact ⟨b, _, b1, by rw [e1, hs_ne (Ne.symm hta)]; exact hs_eq rfl, rfl, b4, b5⟩
      · have hbt : b ≠ t := fun z => by rw [z, ht] at b2; cases b2
        exact ⟨b, fs2, b1, by rw [hs_ne hbt, hs_ne e1]; exact b2, b3, b4, b5⟩
  · have hn : n = sz := by omega
    subst hn
    generalize hY : ah_new G (.inr (0, [.int (nI 0), .int (nI 0), .int (nI 0), .int (nI 0), .int (nI 0), .null, .null, .long 0, .int (nI 0), .null, .null])) 11 = Y
    have y1 : ∀ b, b < G.2.1 → Y.1 b = G.1 b := fun b hb => by rw [← hY]; exact hn_ne (by omega)
    have y2 : Y.2 = (G.2.1 + 1, G.2.2.1 + 11, G.2.2.2) := by rw [← hY]; rfl
    have y3 : Y.1 G.2.1 = some (.inr (0, [.int (nI 0), .int (nI 0), .int (nI 0), .int (nI 0), .int (nI 0), .null, .null, .long 0, .int (nI 0), .null, .null])) := by rw [← hY]; exact hn_eq rfl
    have y4 : Y.2.1 = G.2.1 + 1 := by rw [y2]
    have haY : al Y (t + 1) e n cap f := ⟨⟨mc, by rw [y1 _ hlt.1]; exact al1⟩, by rw [y1 _ hlt.2]; exact al2, al3, al4⟩
    obtain ⟨H, e2, cap2, f2, q1, q2, q3, q4, q5, q6, q7⟩ := m_al_add (d := d) haY (fun z => by rw [y2]; exact h0 z) (by omega) (by omega) (by omega) (fun i hi => by
      obtain ⟨b, fs, b1, b2, b3, b4, b5⟩ := hN i hi
      exact ⟨b, fs, b1, by rw [y1 b b4]; exact b2, by omega⟩) y3 (by omega)
    have hge : G.2.1 ≠ e := by omega
    have hgt : G.2.1 ≠ t + 1 := by omega
    have n1 : H.1 G.2.1 = _ := (q5 G.2.1 hgt (Or.inl hge) (by omega)).trans y3
    have n2 : H.1 t = some (.inr (8, [.ref (t + 1), .int (nI n)])) := by rw [q5 t (by omega) (Or.inl hte) (by omega), y1 t (by omega)]; exact ht
    have q2' := q2
    obtain ⟨⟨mc2, r1⟩, r2, r3, r4⟩ := q2'
    have gs2 := fun Q => m_al_size (d := d + 6) (Q := Q) q2
    have gb := fun Q => m_X8_add_b (d := d + 4) (Q := Q) (cn := cn) (S := S) (pa := pa) (l5 := none) n2 q2 (by omega) q4 n1 rfl hp
    have p0 : ∀ K, ae_gw H t 8 0 K = K (.ref (t + 1)) := fun K => by unfold ae_gw; rw [n2]; rfl
    have p1 : ∀ K, ae_pw H t 8 1 (.int (nI n)) K = K H := fun K => by
      unfold ae_pw
      rw [n2]
      show K (ah_set H t (.inr (8, [.ref (t + 1), .int (nI n)]))) = K H
      rw [hs_same n2]
    have hge2 : G.2.1 ≠ t := by omega
    have he2 : e2 ≠ t ∧ e2 ≠ G.2.1 ∧ e2 < H.2.1 ∧ (¬ E e2 ∨ cap2 = 0) ∧ led Y n cap H (n + 1) cap2 ∧ H.2.1 ≤ G.2.1 + 2 ∧ (cap2 = 0 → e2 = H.2.2.2.1) ∧ H.2.2.1 + 4 * cap ≤ Y.2.2.1 + 4 * cap2 ∧ cap2 ≤ 10 + (n + 1) + (n + 1) / 2 ∧ G.2.1 < H.2.1 := by
      rcases q7 with ⟨z1, z2, z3, z4⟩ | ⟨z1, z2, z3, z4, z5⟩
      · subst z2
        subst z3
        refine ⟨Ne.symm hte, by omega, by rw [z4]; omega, hE.2.2, ⟨by rw [z4]; omega, by rw [z4]; omega, by omega, by rw [z4]; exact Nat.le_refl _, by rw [z4]⟩, by rw [z4]; omega, fun z => by omega, by rw [z4]; exact Nat.le_refl _, by omega, by rw [z4]; omega⟩
      · have hnc : 4 * cap ≤ 3 * ncp cap ∧ ncp cap ≤ 10 + cap + cap / 2 ∧ 0 < ncp cap := by
          unfold ncp
          by_cases c0 : cap = 0
          · rw [if_pos c0]; omega
          · rw [if_neg c0]; omega
        subst z3
        refine ⟨by omega, by omega, by omega, Or.inl (fun z => by have := hEb _ z; omega), ⟨by omega, by omega, by omega, by omega, q6⟩, by omega, fun z => by omega, by omega, by omega, by omega⟩
    obtain ⟨w1, w2, w3, w4, w5, w6, w7, w8, w9, w10⟩ := he2
    refine ⟨ah_set (ah_set H G.2.1 (.inr (0, nfs (nI n) cn (nI 0) (-1) (nI 0) .null .null S (nI 0) pa .null))) t (.inr (8, [.ref (t + 1), .int (nI (n + 1))])), e2, n + 1, cap2, f2, G.2.1, fun Q => ?_, ⟨hs_eq rfl, ⟨⟨mc2, by rw [hs_ne (by omega), hs_ne (Ne.symm hgt)]; exact r1⟩, by rw [hs_ne w1, hs_ne w2]; exact r2, r3, r4⟩, Nat.le_refl _, fun i hi => ?_, fun i j a hi hj hi2 hj2 => ?_, w7, ⟨w9, by omega⟩, ⟨?_, w3⟩, ⟨hE.1, hE.2.1, w4⟩, fun a ha => ?_⟩, q4, q3, (hs_ne hge2).trans (hs_eq rfl), fun b b1 b2 b3 b4 b5 => ?_, Or.inl (Nat.le_refl _), ?_⟩
    · have gb := gb Q
      have e11 : n + 1 - 1 = n := by omega
      refine (e_X8_add_v hp).trans ?_
      simp (disch := first | exact ae_isR_ref _ | exact ae_isR_null | exact ae_isR_rf _ | exact ae_cat_ref _ | exact ae_cat_int _ | exact ae_cat_null | exact ae_cat_rf _ | exact ae_nz0 | exact ae_nz1 | exact ae_fz0 | exact ae_fz1 | exact cI_na (by omega) | exact cI_ix (by omega) | exact cI_nn (by omega) | exact cI_nz (by omega) | exact cI_cp (by omega) | assumption | omega) only [s_X8_add_0, s_X8_add_1, s_X8_add_4, s_X8_add_5, s_X8_add_8 al1, s_X8_add_11, s_X8_add_14, s_X8_add_15, s_X8_add_18, s_X8_add_21, s_X8_add_22, s_X8_add_25 haY.1.choose_spec, s_X8_add_28, s_X8_add_29, s_X8_add_30, s_X8_add_31, s_X8_add_34 r1, s_X8_add_37, s_X8_add_38, s_X8_add_39, gs, s_X0_init_0, s_X0_init_1, s_X0_init_4, e_X0_init, hY, q1, gs2, gb, o0, o1, p0, p1, e11, og_0, og_1, og_2, og_3, og_4, og_5, og_6, og_7, og_8, og_9, og_10, og_11, og_12, op_6, op_8, op_9, op_10, op_11, op_12, dg_0, dg_1, dg_2, dg_3, dp_1, dp_2, dp_3, ng_b, ng_d, mz_m, ms_m, ov_2, nset_d, nset_b, uI_1, uI_2, uR_1, uR_21, uR_22, va_rf, Bool.false_eq_true, ae_Ki, ae_Kb, ae_Kj, ae_Ka, ae_Si, ae_Sb, ae_Sj, ae_Sn, List.getElem?_cons_succ, List.getElem?_cons_zero, ↓reduceIte, if_true, if_false, nI_ofNat, true_or, or_true, false_or, or_false, true_and, and_true, false_and, and_false, or_self, and_self, not_true_eq_false, not_false_eq_true, eq_self, List.length_cons, List.length_nil, Nat.reduceAdd, Nat.reduceLT, Nat.reduceSub, List.set_cons_succ, List.set_cons_zero, Option.toList, List.nil_append, List.cons_append, cI_ltT, cI_ltF, cI_leT, cI_leF, cI_eqT, cI_eqF, cI_cl, cN_leT, cN_leF, cN_ltT, cN_ltF, cN_eqT, cN_eqF, cI_add, cI_sub, cI_m1a, cI_m1b, cI_m1c, cI_m1d, cI_m1e, cI_m1f]
    · by_cases e1 : i = n
      · subst e1
        exact ⟨G.2.1, _, q4, (hs_ne hge2).trans (hs_eq rfl), rfl, w10, fun z => by have := hEb _ z; omega⟩
      · obtain ⟨b, fs2, b1, b2, b3, b4, b5⟩ := hN i (by omega)
        have hbt : b ≠ t := fun z => by rw [z, ht] at b2; cases b2
        have hbt1 : b ≠ t + 1 := fun z => by rw [z, al1] at b2; cases b2
        have hbe : b ≠ e := fun z => by rw [z, al2] at b2; cases b2
        exact ⟨b, fs2, by rw [q3 i (by omega)]; exact b1, by rw [hs_ne hbt, hs_ne (by omega), q5 b hbt1 (Or.inl hbe) (by omega), y1 b b4]; exact b2, b3, Nat.lt_trans b4 w10, b5⟩
    · have key : ∀ k a, k < n + 1 → f2 k = some a → (k = n ∧ a = G.2.1) ∨ (k < n ∧ f k = some a ∧ a < G.2.1) := by
        intro k a hk hk2
        by_cases e1 : k = n
        · subst e1
          rw [q4] at hk2
          cases hk2
          exact Or.inl ⟨rfl, rfl⟩
        · obtain ⟨b, fs2, b1, b2, b3, b4, b5⟩ := hN k (by omega)
          rw [q3 k (by omega)] at hk2
          rw [hk2] at b1
          cases b1
          exact Or.inr ⟨by omega, hk2, b4⟩
      rcases key i a hi hi2 with ⟨k1, k2⟩ | ⟨k1, k2, k3⟩
      · rcases key j a hj hj2 with ⟨m1, m2⟩ | ⟨m1, m2, m3⟩
        · omega
        · omega
      · rcases key j a hj hj2 with ⟨m1, m2⟩ | ⟨m1, m2, m3⟩
        · omega
        · exact hinj i j a k1 m1 k2 m2
    · show t + 1 < H.2.1
      omega
    · have := hEb a ha
      show a < H.2.1
      omega
    · rw [hs_ne b1, hs_ne b4]
      rw [q5 b b2 (b3.imp id (fun z => by omega)) (by omega), y1 b b5]
    · obtain ⟨l1, l2, l3, l4, l5⟩ := w5
      rw [y2] at l1 l2 l4 l5
      exact ⟨by show H.2.1 + _ ≤ _; omega, by show H.2.2.1 + _ + _ ≤ _; rw [y2] at w8; dsimp only at w8; omega, by omega, by show _ ≤ H.2.1; omega, l5⟩
end TAD
