/-! ArrayList.add; NarrowSolver$Tree.add -/
theorem cI_shr1 {a : Nat} (h : a < 2147483648) : nI a >>> (nI 1 &&& 31) = nI (a / 2) := by
  apply Int32.toBitVec_inj.mp
  rw [Int32.toBitVec_shiftRight]
  have e : (nI 1 &&& 31).toBitVec.smod 32 = 1#32 := by decide +kernel
  rw [e]
  have e1 : (nI a).toBitVec = BitVec.ofNat 32 a := rfl
  have e2 : (nI (a / 2)).toBitVec = BitVec.ofNat 32 (a / 2) := rfl
  rw [e1, e2, BitVec.sshiftRight', BitVec.sshiftRight_eq_of_msb_false]
  · apply BitVec.eq_of_toNat_eq
    rw [BitVec.toNat_ushiftRight, BitVec.toNat_ofNat, BitVec.toNat_ofNat, BitVec.toNat_ofNat, Nat.shiftRight_eq_div_pow, show 1 % 2 ^ 32 = 1 from rfl]
    omega
  · rw [BitVec.msb_eq_decide, BitVec.toNat_ofNat]
    apply decide_eq_false
    omega
def va0 : Nat → Option Nat := fun _ => none
/-- the array that a full list gets -/
def ncp (cap : Nat) : Nat := if cap = 0 then 10 else cap + max 1 (cap / 2)
section ALA
variable {d : Nat} {Q : Option Value → ah_H → Prop} {h : ah_H} {q e n cap : Nat} {f : Nat → Option Nat}
theorem m_max {a b : Nat} (ha : a < 2147483648) (hb : b < 2147483648) : ae_wm d mJ9_max_7cf53 [.int (nI a), .int (nI b)] h Q = Q (some (.int (nI (max a b)))) h := by
  by_cases c : a < b
  · rw [Nat.max_eq_right (Nat.le_of_lt c)]
    simp (disch := first | exact ae_isR_ref _ | exact ae_isR_null | exact ae_isR_rf _ | exact ae_cat_ref _ | exact ae_cat_int _ | exact ae_cat_null | exact ae_cat_rf _ | exact ae_nz0 | exact ae_nz1 | exact ae_fz0 | exact ae_fz1 | exact cI_na (by omega) | exact cI_ix (by omega) | exact cI_nn (by omega) | exact cI_nz (by omega) | exact cI_cp (by omega) | assumption | omega) only [s_J9_max_7cf53_0, s_J9_max_7cf53_1, s_J9_max_7cf53_2, s_J9_max_7cf53_5, s_J9_max_7cf53_6, s_J9_max_7cf53_9, s_J9_max_7cf53_10, e_J9_max_7cf53, Bool.false_eq_true, ae_gw, ae_pw, ae_zw, ae_Ki, ae_Kb, ae_Kj, ae_Ka, ae_Si, ae_Sb, ae_Sj, ae_Sn, List.getElem?_cons_succ, List.getElem?_cons_zero, ↓reduceIte, if_true, if_false, nI_ofNat, true_or, or_true, false_or, or_false, true_and, and_true, false_and, and_false, or_self, and_self, not_true_eq_false, not_false_eq_true, eq_self, List.length_cons, List.length_nil, Nat.reduceAdd, Nat.reduceLT, Nat.reduceSub, List.set_cons_succ, List.set_cons_zero, Option.toList, List.nil_append, List.cons_append, cI_ltT, cI_ltF, cI_leT, cI_leF, cI_eqT, cI_eqF, cI_cl, cN_leT, cN_leF, cN_ltT, cN_ltF, cN_eqT, cN_eqF, cI_add, cI_sub, cI_m1a, cI_m1b, cI_m1c, cI_m1d, cI_m1e, cI_m1f, hs_eq, hs_ne, hs_2, hs_hs, hn_eq, hn_ne, hn_21, hn_22, hn_23]
  · rw [Nat.max_eq_left (by omega)]
    simp (disch := first | exact ae_isR_ref _ | exact ae_isR_null | exact ae_isR_rf _ | exact ae_cat_ref _ | exact ae_cat_int _ | exact ae_cat_null | exact ae_cat_rf _ | exact ae_nz0 | exact ae_nz1 | exact ae_fz0 | exact ae_fz1 | exact cI_na (by omega) | exact cI_ix (by omega) | exact cI_nn (by omega) | exact cI_nz (by omega) | exact cI_cp (by omega) | assumption | omega) only [s_J9_max_7cf53_0, s_J9_max_7cf53_1, s_J9_max_7cf53_2, s_J9_max_7cf53_5, s_J9_max_7cf53_6, s_J9_max_7cf53_9, s_J9_max_7cf53_10, e_J9_max_7cf53, Bool.false_eq_true, ae_gw, ae_pw, ae_zw, ae_Ki, ae_Kb, ae_Kj, ae_Ka, ae_Si, ae_Sb, ae_Sj, ae_Sn, List.getElem?_cons_succ, List.getElem?_cons_zero, ↓reduceIte, if_true, if_false, nI_ofNat, true_or, or_true, false_or, or_false, true_and, and_true, false_and, and_false, or_self, and_self, not_true_eq_false, not_false_eq_true, eq_self, List.length_cons, List.length_nil, Nat.reduceAdd, Nat.reduceLT, Nat.reduceSub, List.set_cons_succ, List.set_cons_zero, Option.toList, List.nil_append, List.cons_append, cI_ltT, cI_ltF, cI_leT, cI_leF, cI_eqT, cI_eqF, cI_cl, cN_leT, cN_leF, cN_ltT, cN_ltF, cN_eqT, cN_eqF, cI_add, cI_sub, cI_m1a, cI_m1b, cI_m1c, cI_m1d, cI_m1e, cI_m1f, hs_eq, hs_ne, hs_2, hs_hs, hn_eq, hn_ne, hn_21, hn_22, hn_23]
theorem m_min {a b : Nat} (hab : a ≤ b) (hb : b < 2147483648) : ae_wm d mJ9_min_7cf53 [.int (nI a), .int (nI b)] h Q = Q (some (.int (nI a))) h := by
  simp (disch := first | exact ae_isR_ref _ | exact ae_isR_null | exact ae_isR_rf _ | exact ae_cat_ref _ | exact ae_cat_int _ | exact ae_cat_null | exact ae_cat_rf _ | exact ae_nz0 | exact ae_nz1 | exact ae_fz0 | exact ae_fz1 | exact cI_na (by omega) | exact cI_ix (by omega) | exact cI_nn (by omega) | exact cI_nz (by omega) | exact cI_cp (by omega) | assumption | omega) only [s_J9_min_7cf53_0, s_J9_min_7cf53_1, s_J9_min_7cf53_2, s_J9_min_7cf53_5, s_J9_min_7cf53_6, s_J9_min_7cf53_9, s_J9_min_7cf53_10, e_J9_min_7cf53, Bool.false_eq_true, ae_gw, ae_pw, ae_zw, ae_Ki, ae_Kb, ae_Kj, ae_Ka, ae_Si, ae_Sb, ae_Sj, ae_Sn, List.getElem?_cons_succ, List.getElem?_cons_zero, ↓reduceIte, if_true, if_false, nI_ofNat, true_or, or_true, false_or, or_false, true_and, and_true, false_and, and_false, or_self, and_self, not_true_eq_false, not_false_eq_true, eq_self, List.length_cons, List.length_nil, Nat.reduceAdd, Nat.reduceLT, Nat.reduceSub, List.set_cons_succ, List.set_cons_zero, Option.toList, List.nil_append, List.cons_append, cI_ltT, cI_ltF, cI_leT, cI_leF, cI_eqT, cI_eqF, cI_cl, cN_leT, cN_leF, cN_ltT, cN_ltF, cN_eqT, cN_eqF, cI_add, cI_sub, cI_m1a, cI_m1b, cI_m1c, cI_m1d, cI_m1e, cI_m1f, hs_eq, hs_ne, hs_2, hs_hs, hn_eq, hn_ne, hn_21, hn_22, hn_23]
theorem m_newLength {a b c : Nat} (ha : 0 < a ∧ a < 60000) (hb : b < 60000) (hc : c < 60000) : ae_wm (d + 1) mJ8_newLength_cabcc [.int (nI a), .int (nI b), .int (nI c)] h Q = Q (some (.int (nI (a + max b c)))) h := by
  have gm := fun Q => m_max (d := d) (Q := Q) (h := h) (a := b) (b := c) (by omega) (by omega)
  have h1 : max b c < 60000 := by omega
  generalize max b c = w at *
  simp (disch := first | exact ae_isR_ref _ | exact ae_isR_null | exact ae_isR_rf _ | exact ae_cat_ref _ | exact ae_cat_int _ | exact ae_cat_null | exact ae_cat_rf _ | exact ae_nz0 | exact ae_nz1 | exact ae_fz0 | exact ae_fz1 | exact cI_na (by omega) | exact cI_ix (by omega) | exact cI_nn (by omega) | exact cI_nz (by omega) | exact cI_cp (by omega) | assumption | omega) only [s_J8_newLength_cabcc_0, s_J8_newLength_cabcc_1, s_J8_newLength_cabcc_2, s_J8_newLength_cabcc_3, s_J8_newLength_cabcc_6, s_J8_newLength_cabcc_7, s_J8_newLength_cabcc_8, s_J8_newLength_cabcc_9, s_J8_newLength_cabcc_10, s_J8_newLength_cabcc_13, s_J8_newLength_cabcc_14, s_J8_newLength_cabcc_16, s_J8_newLength_cabcc_19, s_J8_newLength_cabcc_20, e_J8_newLength_cabcc, Bool.false_eq_true, ae_gw, ae_pw, ae_zw, ae_Ki, ae_Kb, ae_Kj, ae_Ka, ae_Si, ae_Sb, ae_Sj, ae_Sn, List.getElem?_cons_succ, List.getElem?_cons_zero, ↓reduceIte, if_true, if_false, nI_ofNat, true_or, or_true, false_or, or_false, true_and, and_true, false_and, and_false, or_self, and_self, not_true_eq_false, not_false_eq_true, eq_self, List.length_cons, List.length_nil, Nat.reduceAdd, Nat.reduceLT, Nat.reduceSub, List.set_cons_succ, List.set_cons_zero, Option.toList, List.nil_append, List.cons_append, cI_ltT, cI_ltF, cI_leT, cI_leF, cI_eqT, cI_eqF, cI_cl, cN_leT, cN_leF, cN_ltT, cN_ltF, cN_eqT, cN_eqF, cI_add, cI_sub, cI_m1a, cI_m1b, cI_m1c, cI_m1d, cI_m1e, cI_m1f, hs_eq, hs_ne, hs_2, hs_hs, hn_eq, hn_ne, hn_21, hn_22, hn_23, gm]
theorem allN_of {k : Nat} (hf : ∀ i, i < k → ∃ b fs, f i = some b ∧ h.1 b = some (.inr (0, fs))) : ae_allN h f 0 k = true := by
  unfold ae_allN
  rw [List.all_eq_true]
  intro i hi
  obtain ⟨b, fs, h1, h2⟩ := hf i (List.mem_range.mp hi)
  rw [Nat.zero_add, h1]
  dsimp only
  rw [h2]
  rfl
theorem m_copyOf {c2 : Nat} (he : h.1 e = some (.inl (7, cap, .inr (.inr (.inr (.inr f)))))) (hc : cap ≤ c2) (hc2 : c2 ≤ 65536) (hlt : e < h.2.1) (hf : ∀ i, i < cap → ∃ b fs, f i = some b ∧ h.1 b = some (.inr (0, fs)) ∧ b < h.2.1) : ae_wm (d + 2) mJ7_copyOf_1904c [.ref e, .int (nI c2)] h Q = Q (some (.ref h.2.1)) (ah_set (ah_new h (.inl (7, c2, .inr (.inr (.inr (.inr va0))))) c2) h.2.1 (.inl (7, c2, .inr (.inr (.inr (.inr (va_cpy f va0 0 0 cap))))))) := by
  have gm := fun h Q => m_min (d := d) (Q := Q) (h := h) (a := cap) (b := c2) hc (by omega)
  have e1 : (ah_new h (.inl (7, c2, .inr (.inr (.inr (.inr va0))))) c2).1 e = some (.inl (7, cap, .inr (.inr (.inr (.inr f))))) := by rw [hn_ne (by omega)]; exact he
  have e2 : (ah_new h (.inl (7, c2, .inr (.inr (.inr (.inr va0))))) c2).1 h.2.1 = some (.inl (7, c2, .inr (.inr (.inr (.inr va0))))) := hn_eq rfl
  have h6 : ae_allN (ah_new h (.inl (7, c2, .inr (.inr (.inr (.inr va0))))) c2) f (nI 0).toNatClampNeg (nI cap).toNatClampNeg = true := by
    rw [cI_cl (by omega), cI_cl (by omega)]
    refine allN_of (fun i hi => ?_)
    obtain ⟨b, fs, h1, h2, h3⟩ := hf i hi
    exact ⟨b, fs, h1, by rw [hn_ne (by omega)]; exact h2⟩
  have hv0 : va0 = fun _ => none := rfl
  have g35 := fun (l0 l1 l2 l3 : Option Value) (Q : Option Value → ah_H → Prop) => s_J7_copyOf_6403c_35 (d := d + 1) (Q := Q) (l0 := l0) (l1 := l1) (l2 := l2) (l3 := l3) (dp := nI 0) (sp := nI 0) e1 e2 (cI_nn (by omega)) (cI_nn (by omega)) (cI_nn (j := cap) (by omega)) (cI_cp (by omega)) (cI_cp (by omega)) h6
  have c0 : (nI 0).toNatClampNeg = 0 := cI_cl (by omega)
  have c1 : (nI cap).toNatClampNeg = cap := cI_cl (by omega)
  simp only [c0, c1] at g35
  have z1 : ∀ K, ae_zw (ah_new h (.inl (7, c2, .inr (.inr (.inr (.inr va0))))) c2) e K = K 7 (cap, .inr (.inr (.inr (.inr f)))) := fun K => zw_of e1
  have ea : ae_acnd .ne (.ref h.2.2.2.2) (.ref h.2.2.2.2) = false := by simp [ae_acnd]
  simp (disch := first | exact ae_isR_ref _ | exact ae_isR_null | exact ae_isR_rf _ | exact ae_cat_ref _ | exact ae_cat_int _ | exact ae_cat_null | exact ae_cat_rf _ | exact ae_nz0 | exact ae_nz1 | exact ae_fz0 | exact ae_fz1 | exact cI_na (by omega) | exact cI_ix (by omega) | exact cI_nn (by omega) | exact cI_nz (by omega) | exact cI_cp (by omega) | assumption | omega) only [s_J7_copyOf_1904c_0, s_J7_copyOf_1904c_1, s_J7_copyOf_1904c_2, s_J7_copyOf_1904c_3 he, s_J7_copyOf_1904c_6, s_J7_copyOf_1904c_9, e_J7_copyOf_1904c, s_J7_copyOf_6403c_0, s_J7_copyOf_6403c_1, s_J7_copyOf_6403c_3, s_J7_copyOf_6403c_6, s_J7_copyOf_6403c_7, s_J7_copyOf_6403c_10, e_J7_copyOf_6403c, s_J7_copyOf_6403c_24, s_J7_copyOf_6403c_25, s_J7_copyOf_6403c_26, s_J7_copyOf_6403c_27, s_J7_copyOf_6403c_28, s_J7_copyOf_6403c_29, s_J7_copyOf_6403c_30, s_J7_copyOf_6403c_31, s_J7_copyOf_6403c_32, s_J7_copyOf_6403c_38, s_J7_copyOf_6403c_39, og_0, og_1, og_2, og_3, og_4, og_5, og_6, og_7, og_8, og_9, og_10, og_11, og_12, op_6, op_8, op_9, op_10, op_11, op_12, dg_0, dg_1, dg_2, dg_3, dp_1, dp_2, dp_3, ng_b, ng_d, mz_m, ms_m, ov_2, nset_d, nset_b, uI_1, uI_2, uR_1, uR_21, uR_22, va_rf, Bool.false_eq_true, ae_Ki, ae_Kb, ae_Kj, ae_Ka, ae_Si, ae_Sb, ae_Sj, ae_Sn, List.getElem?_cons_succ, List.getElem?_cons_zero, ↓reduceIte, if_true, if_false, nI_ofNat, true_or, or_true, false_or, or_false, true_and, and_true, false_and, and_false, or_self, and_self, not_true_eq_false, not_false_eq_true, eq_self, List.length_cons, List.length_nil, Nat.reduceAdd, Nat.reduceLT, Nat.reduceSub, List.set_cons_succ, List.set_cons_zero, Option.toList, List.nil_append, List.cons_append, cI_ltT, cI_ltF, cI_leT, cI_leF, cI_eqT, cI_eqF, cI_cl, cN_leT, cN_leF, cN_ltT, cN_ltF, cN_eqT, cN_eqF, cI_add, cI_sub, cI_m1a, cI_m1b, cI_m1c, cI_m1d, cI_m1e, cI_m1f, ea, ← hv0, z1, gm, g35]
theorem m_al_grow {mc : Int32} (h1 : h.1 q = some (.inr (12, [.int mc, .ref e, .int (nI cap)]))) (h2 : h.1 e = some (.inl (alt cap, cap, .inr (.inr (.inr (.inr f)))))) (h0 : cap = 0 → e = h.2.2.2.1) (hcap : cap ≤ 15000) (hq : q < h.2.1) (he : e < h.2.1) (hf : ∀ i, i < cap → ∃ b fs, f i = some b ∧ h.1 b = some (.inr (0, fs)) ∧ b < h.2.1) : ∃ X g, (∀ Q, ae_wm (d + 4) mJx4a65c_grow_d5877 [.ref q] h Q = Q (some (.ref h.2.1)) (ah_set X q (.inr (12, [.int mc, .ref h.2.1, .int (nI cap)])))) ∧ X.1 h.2.1 = some (.inl (7, ncp cap, .inr (.inr (.inr (.inr g))))) ∧ (∀ i, i < cap → g i = f i) ∧ (∀ b, b ≠ h.2.1 → X.1 b = h.1 b) ∧ X.2 = (h.2.1 + 1, h.2.2.1 + ncp cap, h.2.2.2) := by
  have hv0 : va0 = fun _ => none := rfl
  have o2 : ∀ K, ae_gw h q 12 2 K = K (.int (nI cap)) := fun K => by unfold ae_gw; rw [h1]; rfl
  have o1 : ∀ K, ae_gw h q 12 1 K = K (.ref e) := fun K => by unfold ae_gw; rw [h1]; rfl
  have oz : ∀ K, ae_zw h e K = K (alt cap) (cap, .inr (.inr (.inr (.inr f)))) := fun K => zw_of h2
  by_cases c : cap = 0
  · subst c
    have e0 := h0 rfl
    have en : ncp 0 = 10 := rfl
    rw [en]
    have gm := fun Q => m_max (d := d + 2) (Q := Q) (h := h) (a := 10) (b := 0 + 1) (by omega) (by omega)
    have em : max 10 (0 + 1) = 10 := by decide
    rw [em] at gm
    have q1 : (ah_new h (.inl (7, 10, .inr (.inr (.inr (.inr va0))))) 10).1 q = some (.inr (12, [.int mc, .ref e, .int (nI 0)])) := by rw [hn_ne (by omega)]; exact h1
    have op : ∀ v K, ae_pw (ah_new h (.inl (7, 10, .inr (.inr (.inr (.inr va0))))) 10) q 12 1 v K = K (ah_set (ah_new h (.inl (7, 10, .inr (.inr (.inr (.inr va0))))) 10) q (.inr (12, [.int mc, v, .int (nI 0)]))) := fun v K => by unfold ae_pw; rw [q1]; rfl
    have ea : ae_acnd .eq (.ref e) (.ref h.2.2.2.1) = true := by rw [← e0]; simp [ae_acnd]
    refine ⟨ah_new h (.inl (7, 10, .inr (.inr (.inr (.inr va0))))) 10, va0, fun Q => ?_, hn_eq rfl, fun i hi => by omega, fun b hb => hn_ne hb, rfl⟩
    simp (disch := first | exact ae_isR_ref _ | exact ae_isR_null | exact ae_isR_rf _ | exact ae_cat_ref _ | exact ae_cat_int _ | exact ae_cat_null | exact ae_cat_rf _ | exact ae_nz0 | exact ae_nz1 | exact ae_fz0 | exact ae_fz1 | exact cI_na (by omega) | exact cI_ix (by omega) | exact cI_nn (by omega) | exact cI_nz (by omega) | exact cI_cp (by omega) | assumption | omega) only [s_Jx4a65c_grow_d5877_0, s_Jx4a65c_grow_d5877_1, s_Jx4a65c_grow_d5877_2, s_Jx4a65c_grow_d5877_5, s_Jx4a65c_grow_d5877_6, s_Jx4a65c_grow_d5877_7 h1, s_Jx4a65c_grow_d5877_10, e_Jx4a65c_grow_d5877, s_Jx4a65c_grow_92f84_0, s_Jx4a65c_grow_92f84_1, s_Jx4a65c_grow_92f84_4, s_Jx4a65c_grow_92f84_5, s_Jx4a65c_grow_92f84_6, s_Jx4a65c_grow_92f84_7, s_Jx4a65c_grow_92f84_10, s_Jx4a65c_grow_92f84_11, s_Jx4a65c_grow_92f84_14, s_Jx4a65c_grow_92f84_17, e_Jx4a65c_grow_92f84, s_Jx4a65c_grow_92f84_45, s_Jx4a65c_grow_92f84_46, s_Jx4a65c_grow_92f84_48, s_Jx4a65c_grow_92f84_49, s_Jx4a65c_grow_92f84_52, s_Jx4a65c_grow_92f84_55, s_Jx4a65c_grow_92f84_56, s_Jx4a65c_grow_92f84_59, og_0, og_1, og_2, og_3, og_4, og_5, og_6, og_7, og_8, og_9, og_10, og_11, og_12, op_6, op_8, op_9, op_10, op_11, op_12, dg_0, dg_1, dg_2, dg_3, dp_1, dp_2, dp_3, ng_b, ng_d, mz_m, ms_m, ov_2, nset_d, nset_b, uI_1, uI_2, uR_1, uR_21, uR_22, va_rf, Bool.false_eq_true, ae_Ki, ae_Kb, ae_Kj, ae_Ka, ae_Si, ae_Sb, ae_Sj, ae_Sn, List.getElem?_cons_succ, List.getElem?_cons_zero, ↓reduceIte, if_true, if_false, nI_ofNat, true_or, or_true, false_or, or_false, true_and, and_true, false_and, and_false, or_self, and_self, not_true_eq_false, not_false_eq_true, eq_self, List.length_cons, List.length_nil, Nat.reduceAdd, Nat.reduceLT, Nat.reduceSub, List.set_cons_succ, List.set_cons_zero, Option.toList, List.nil_append, List.cons_append, cI_ltT, cI_ltF, cI_leT, cI_leF, cI_eqT, cI_eqF, cI_cl, cN_leT, cN_leF, cN_ltT, cN_ltF, cN_eqT, cN_eqF, cI_add, cI_sub, cI_m1a, cI_m1b, cI_m1c, cI_m1d, cI_m1e, cI_m1f, o2, o1, oz, ea, gm, ← hv0, op]
  · have en : ncp cap = cap + max 1 (cap / 2) := if_neg c
    rw [alt_7 (by omega)] at h2 oz
    have hm : max 1 (cap / 2) < 20000 := by omega
    rw [en]
    have gl := fun Q => m_newLength (d := d + 1) (Q := Q) (h := h) (a := cap) (b := cap + 1 - cap) (c := cap / 2) (by omega) (by omega) (by omega)
    rw [show cap + 1 - cap = 1 by omega] at gl
    have gc := fun Q => m_copyOf (d := d) (Q := Q) (c2 := cap + max 1 (cap / 2)) h2 (by omega) (by omega) he hf
    generalize hX : ah_set (ah_new h (.inl (7, cap + max 1 (cap / 2), .inr (.inr (.inr (.inr va0))))) (cap + max 1 (cap / 2))) h.2.1 (.inl (7, cap + max 1 (cap / 2), .inr (.inr (.inr (.inr (va_cpy f va0 0 0 cap)))))) = X at gc
    have q1 : X.1 q = some (.inr (12, [.int mc, .ref e, .int (nI cap)])) := by rw [← hX, hs_ne (by omega), hn_ne (by omega)]; exact h1
    have op : ∀ v K, ae_pw X q 12 1 v K = K (ah_set X q (.inr (12, [.int mc, v, .int (nI cap)]))) := fun v K => by unfold ae_pw; rw [q1]; rfl
    have e11 : cap + 1 - cap = 1 := by omega
    have es := cI_shr1 (a := cap) (by omega)
    refine ⟨X, va_cpy f va0 0 0 cap, fun Q => ?_, by rw [← hX]; exact hs_eq rfl, fun i hi => by simp [va_cpy, hi], fun b hb => by rw [← hX, hs_ne hb, hn_ne hb], by rw [← hX]; rfl⟩
    generalize cap + max 1 (cap / 2) = c2 at *
    simp (disch := first | exact ae_isR_ref _ | exact ae_isR_null | exact ae_isR_rf _ | exact ae_cat_ref _ | exact ae_cat_int _ | exact ae_cat_null | exact ae_cat_rf _ | exact ae_nz0 | exact ae_nz1 | exact ae_fz0 | exact ae_fz1 | exact cI_na (by omega) | exact cI_ix (by omega) | exact cI_nn (by omega) | exact cI_nz (by omega) | exact cI_cp (by omega) | assumption | omega) only [s_Jx4a65c_grow_d5877_0, s_Jx4a65c_grow_d5877_1, s_Jx4a65c_grow_d5877_2, s_Jx4a65c_grow_d5877_5, s_Jx4a65c_grow_d5877_6, s_Jx4a65c_grow_d5877_7 h1, s_Jx4a65c_grow_d5877_10, e_Jx4a65c_grow_d5877, s_Jx4a65c_grow_92f84_0, s_Jx4a65c_grow_92f84_1, s_Jx4a65c_grow_92f84_4, s_Jx4a65c_grow_92f84_5, s_Jx4a65c_grow_92f84_6, s_Jx4a65c_grow_92f84_7, e_Jx4a65c_grow_92f84, s_Jx4a65c_grow_92f84_20, s_Jx4a65c_grow_92f84_21, s_Jx4a65c_grow_92f84_22, s_Jx4a65c_grow_92f84_23, s_Jx4a65c_grow_92f84_24, s_Jx4a65c_grow_92f84_25, s_Jx4a65c_grow_92f84_26, s_Jx4a65c_grow_92f84_27, s_Jx4a65c_grow_92f84_30, s_Jx4a65c_grow_92f84_31, s_Jx4a65c_grow_92f84_32, s_Jx4a65c_grow_92f84_33, s_Jx4a65c_grow_92f84_36, s_Jx4a65c_grow_92f84_37, s_Jx4a65c_grow_92f84_40, s_Jx4a65c_grow_92f84_41, s_Jx4a65c_grow_92f84_44, og_0, og_1, og_2, og_3, og_4, og_5, og_6, og_7, og_8, og_9, og_10, og_11, og_12, op_6, op_8, op_9, op_10, op_11, op_12, dg_0, dg_1, dg_2, dg_3, dp_1, dp_2, dp_3, ng_b, ng_d, mz_m, ms_m, ov_2, nset_d, nset_b, uI_1, uI_2, uR_1, uR_21, uR_22, va_rf, Bool.false_eq_true, ae_Ki, ae_Kb, ae_Kj, ae_Ka, ae_Si, ae_Sb, ae_Sj, ae_Sn, List.getElem?_cons_succ, List.getElem?_cons_zero, ↓reduceIte, if_true, if_false, nI_ofNat, true_or, or_true, false_or, or_false, true_and, and_true, false_and, and_false, or_self, and_self, not_true_eq_false, not_false_eq_true, eq_self, List.length_cons, List.length_nil, Nat.reduceAdd, Nat.reduceLT, Nat.reduceSub, List.set_cons_succ, List.set_cons_zero, Option.toList, List.nil_append, List.cons_append, cI_ltT, cI_ltF, cI_leT, cI_leF, cI_eqT, cI_eqF, cI_cl, cN_leT, cN_leF, cN_ltT, cN_ltF, cN_eqT, cN_eqF, cI_add, cI_sub, cI_m1a, cI_m1b, cI_m1c, cI_m1d, cI_m1e, cI_m1f, o2, o1, oz, es, e11, gl, gc, op]
theorem m_al_add {a : Nat} {fs0 : List Value} (ha : al h q e n cap f) (h0 : cap = 0 → e = h.2.2.2.1) (hcap : cap ≤ 15000) (hq : q < h.2.1) (he : e < h.2.1) (hf : ∀ i, i < n → ∃ b fs, f i = some b ∧ h.1 b = some (.inr (0, fs)) ∧ b < h.2.1) (haN : h.1 a = some (.inr (0, fs0))) (han : a < h.2.1) : ∃ h2 e2 cap2 f2, (∀ Q, ae_wm (d + 6) mJx4a65c_add_9ea2d [.ref q, .ref a] h Q = Q (some (.int (nI 1))) h2) ∧ al h2 q e2 (n + 1) cap2 f2 ∧ (∀ i, i < n → f2 i = f i) ∧ f2 n = some a ∧ (∀ b, b ≠ q → (b ≠ e ∨ n = cap) → b < h.2.1 → h2.1 b = h.1 b) ∧ h2.2.2.2 = h.2.2.2 ∧ ((n < cap ∧ e2 = e ∧ cap2 = cap ∧ h2.2 = h.2) ∨ (n = cap ∧ e2 = h.2.1 ∧ cap2 = ncp cap ∧ h2.2.1 = h.2.1 + 1 ∧ h2.2.2.1 = h.2.2.1 + ncp cap)) := by
  obtain ⟨⟨mc, h1⟩, h2, h3, h4⟩ := ha
  have hqe : q ≠ e := fun z => by rw [z, h2] at h1; cases h1
  have haq : a ≠ q := fun z => by rw [z, h1] at haN; cases haN
  have hae : a ≠ e := fun z => by rw [z, h2] at haN; cases haN
  by_cases c : n < cap
  · have e7 : alt cap = 7 := alt_7 (by omega)
    rw [e7] at h2
    refine ⟨ah_set (ah_set (ah_set h q (.inr (12, [.int (mc + nI 1), .ref e, .int (nI n)]))) e (.inl (7, cap, .inr (.inr (.inr (.inr (va_up f n (some a)))))))) q (.inr (12, [.int (mc + nI 1), .ref e, .int (nI (n + 1))])), e, cap, va_up f n (some a), fun Q => ?_, ⟨⟨_, hs_eq rfl⟩, by rw [e7, hs_ne (Ne.symm hqe)]; exact hs_eq rfl, by omega, h4⟩, fun i hi => by simp [va_up, show i ≠ n by omega], by simp [va_up], fun b b1 b2 _ => by rw [hs_ne b1, hs_ne (b2.resolve_right (by omega)), hs_ne b1], rfl, Or.inl ⟨c, rfl, rfl, rfl⟩⟩
    have o0 : ∀ K, ae_gw h q 12 0 K = K (.int mc) := fun K => by unfold ae_gw; rw [h1]; rfl
    have op0 : ∀ v K, ae_pw h q 12 0 v K = K (ah_set h q (.inr (12, [v, .ref e, .int (nI n)]))) := fun v K => by unfold ae_pw; rw [h1]; rfl
    generalize hY : ah_set h q (.inr (12, [.int (mc + nI 1), .ref e, .int (nI n)])) = Y
    have y1 : Y.1 q = some (.inr (12, [.int (mc + nI 1), .ref e, .int (nI n)])) := by rw [← hY]; exact hs_eq rfl
    have y2 : Y.1 e = some (.inl (7, cap, .inr (.inr (.inr (.inr f))))) := by rw [← hY, hs_ne (Ne.symm hqe)]; exact h2
    have y3 : Y.1 a = some (.inr (0, fs0)) := by rw [← hY, hs_ne haq]; exact haN
    have o1 : ∀ K, ae_gw Y q 12 1 K = K (.ref e) := fun K => by unfold ae_gw; rw [y1]; rfl
    have o2 : ∀ K, ae_gw Y q 12 2 K = K (.int (nI n)) := fun K => by unfold ae_gw; rw [y1]; rfl
    have oz : ∀ K, ae_zw Y e K = K 7 (cap, .inr (.inr (.inr (.inr f)))) := fun K => zw_of y2
    have g14 := fun (l0 l1 l2 l3 : Option Value) (Q : Option Value → ah_H → Prop) => s_Jx4a65c_add_72be8_14 (d := d + 5) (Q := Q) (l0 := l0) (l1 := l1) (l2 := l2) (l3 := l3) (st := []) (j := nI n) y2 y3 (cI_ix (by omega))
    rw [cI_cl (show n < 2147483648 by omega)] at g14
    generalize hZ : ah_set Y e (.inl (7, cap, .inr (.inr (.inr (.inr (va_up f n (some a))))))) = Z at g14 ⊢
    have z1 : Z.1 q = some (.inr (12, [.int (mc + nI 1), .ref e, .int (nI n)])) := by rw [← hZ, hs_ne hqe]; exact y1
    have op2 : ∀ v K, ae_pw Z q 12 2 v K = K (ah_set Z q (.inr (12, [.int (mc + nI 1), .ref e, v]))) := fun v K => by unfold ae_pw; rw [z1]; rfl
    simp (disch := first | exact ae_isR_ref _ | exact ae_isR_null | exact ae_isR_rf _ | exact ae_cat_ref _ | exact ae_cat_int _ | exact ae_cat_null | exact ae_cat_rf _ | exact ae_nz0 | exact ae_nz1 | exact ae_fz0 | exact ae_fz1 | exact cI_na (by omega) | exact cI_ix (by omega) | exact cI_nn (by omega) | exact cI_nz (by omega) | exact cI_cp (by omega) | assumption | omega) only [s_Jx4a65c_add_9ea2d_0, s_Jx4a65c_add_9ea2d_1, s_Jx4a65c_add_9ea2d_2, s_Jx4a65c_add_9ea2d_5, s_Jx4a65c_add_9ea2d_6, s_Jx4a65c_add_9ea2d_7, s_Jx4a65c_add_9ea2d_10, s_Jx4a65c_add_9ea2d_11, s_Jx4a65c_add_9ea2d_12, s_Jx4a65c_add_9ea2d_13, s_Jx4a65c_add_9ea2d_16, s_Jx4a65c_add_9ea2d_17, s_Jx4a65c_add_9ea2d_20 y1, s_Jx4a65c_add_9ea2d_23, s_Jx4a65c_add_9ea2d_24, e_Jx4a65c_add_9ea2d, s_Jx4a65c_add_72be8_0, s_Jx4a65c_add_72be8_1, s_Jx4a65c_add_72be8_2, s_Jx4a65c_add_72be8_3, e_Jx4a65c_add_72be8, s_Jx4a65c_add_72be8_11, s_Jx4a65c_add_72be8_12, s_Jx4a65c_add_72be8_13, g14, s_Jx4a65c_add_72be8_15, s_Jx4a65c_add_72be8_16, s_Jx4a65c_add_72be8_17, s_Jx4a65c_add_72be8_18, s_Jx4a65c_add_72be8_19, s_Jx4a65c_add_72be8_22, og_0, og_1, og_2, og_3, og_4, og_5, og_6, og_7, og_8, og_9, og_10, og_11, og_12, op_6, op_8, op_9, op_10, op_11, op_12, dg_0, dg_1, dg_2, dg_3, dp_1, dp_2, dp_3, ng_b, ng_d, mz_m, ms_m, ov_2, nset_d, nset_b, uI_1, uI_2, uR_1, uR_21, uR_22, va_rf, Bool.false_eq_true, ae_Ki, ae_Kb, ae_Kj, ae_Ka, ae_Si, ae_Sb, ae_Sj, ae_Sn, List.getElem?_cons_succ, List.getElem?_cons_zero, ↓reduceIte, if_true, if_false, nI_ofNat, true_or, or_true, false_or, or_false, true_and, and_true, false_and, and_false, or_self, and_self, not_true_eq_false, not_false_eq_true, eq_self, List.length_cons, List.length_nil, Nat.reduceAdd, Nat.reduceLT, Nat.reduceSub, List.set_cons_succ, List.set_cons_zero, Option.toList, List.nil_append, List.cons_append, cI_ltT, cI_ltF, cI_leT, cI_leF, cI_eqT, cI_eqF, cI_cl, cN_leT, cN_leF, cN_ltT, cN_ltF, cN_eqT, cN_eqF, cI_add, cI_sub, cI_m1a, cI_m1b, cI_m1c, cI_m1d, cI_m1e, cI_m1f, o0, op0, hY, o1, o2, oz, op2]
  · have hcn : n = cap := by omega
    subst hcn
    have o0 : ∀ K, ae_gw h q 12 0 K = K (.int mc) := fun K => by unfold ae_gw; rw [h1]; rfl
    have op0 : ∀ v K, ae_pw h q 12 0 v K = K (ah_set h q (.inr (12, [v, .ref e, .int (nI n)]))) := fun v K => by unfold ae_pw; rw [h1]; rfl
    generalize hY : ah_set h q (.inr (12, [.int (mc + nI 1), .ref e, .int (nI n)])) = Y
    have y1 : Y.1 q = some (.inr (12, [.int (mc + nI 1), .ref e, .int (nI n)])) := by rw [← hY]; exact hs_eq rfl
    have y2 : Y.1 e = some (.inl (alt n, n, .inr (.inr (.inr (.inr f))))) := by rw [← hY, hs_ne (Ne.symm hqe)]; exact h2
    have y3 : Y.1 a = some (.inr (0, fs0)) := by rw [← hY, hs_ne haq]; exact haN
    have y4 : Y.2 = h.2 := by rw [← hY]; rfl
    have y5 : ∀ b, b ≠ q → Y.1 b = h.1 b := fun b hb => by rw [← hY, hs_ne hb]
    have o1 : ∀ K, ae_gw Y q 12 1 K = K (.ref e) := fun K => by unfold ae_gw; rw [y1]; rfl
    have o2 : ∀ K, ae_gw Y q 12 2 K = K (.int (nI n)) := fun K => by unfold ae_gw; rw [y1]; rfl
    have oz : ∀ K, ae_zw Y e K = K (alt n) (n, .inr (.inr (.inr (.inr f)))) := fun K => zw_of y2
    obtain ⟨X, g, x1, x2, x3, x4, x5⟩ := m_al_grow (d := d) y1 y2 (fun z => by rw [y4]; exact h0 z) hcap (by rw [y4]; exact hq) (by rw [y4]; exact he) (fun i hi => by
      obtain ⟨b, fs, b1, b2, b3⟩ := hf i hi
      have : b ≠ q := fun z => by rw [z, h1] at b2; cases b2
      exact ⟨b, fs, b1, by rw [y5 b this]; exact b2, by rw [y4]; exact b3⟩)
    have y6 : Y.2.1 = h.2.1 := by rw [y4]
    rw [y6] at x1 x2 x4
    have hnc : n < ncp n ∧ ncp n < 60000 := by
      unfold ncp
      by_cases c0 : n = 0
      · rw [if_pos c0]; omega
      · rw [if_neg c0]; omega
    generalize hW : ah_set X q (.inr (12, [.int (mc + nI 1), .ref h.2.1, .int (nI n)])) = W at x1
    have w1 : W.1 q = some (.inr (12, [.int (mc + nI 1), .ref h.2.1, .int (nI n)])) := by rw [← hW]; exact hs_eq rfl
    have w2 : W.1 h.2.1 = some (.inl (7, ncp n, .inr (.inr (.inr (.inr g))))) := by rw [← hW, hs_ne (by omega)]; exact x2
    have w3 : W.1 a = some (.inr (0, fs0)) := by rw [← hW, hs_ne haq, x4 a (by omega)]; exact y3
    have g14 := fun (l0 l1 l2 l3 : Option Value) (Q : Option Value → ah_H → Prop) => s_Jx4a65c_add_72be8_14 (d := d + 5) (Q := Q) (l0 := l0) (l1 := l1) (l2 := l2) (l3 := l3) (st := []) (j := nI n) w2 w3 (cI_ix (by omega))
    rw [cI_cl (show n < 2147483648 by omega)] at g14
    generalize hZ : ah_set W h.2.1 (.inl (7, ncp n, .inr (.inr (.inr (.inr (va_up g n (some a))))))) = Z at g14
    have z1 : Z.1 q = some (.inr (12, [.int (mc + nI 1), .ref h.2.1, .int (nI n)])) := by rw [← hZ, hs_ne (by omega)]; exact w1
    have op2 : ∀ v K, ae_pw Z q 12 2 v K = K (ah_set Z q (.inr (12, [.int (mc + nI 1), .ref h.2.1, v]))) := fun v K => by unfold ae_pw; rw [z1]; rfl
    have hZ2 : Z.2 = (h.2.1 + 1, h.2.2.1 + ncp n, h.2.2.2) := by rw [← hZ, ← hW]; show X.2 = _; rw [x5, y4]
    refine ⟨ah_set Z q (.inr (12, [.int (mc + nI 1), .ref h.2.1, .int (nI (n + 1))])), h.2.1, ncp n, va_up g n (some a), fun Q => ?_, ⟨⟨_, hs_eq rfl⟩, by rw [alt_7 (by omega), hs_ne (by omega), ← hZ]; exact hs_eq rfl, by omega, by omega⟩, fun i hi => by simp [va_up, show i ≠ n by omega, x3 i hi], by simp [va_up], fun b b1 b2 b3 => by rw [hs_ne b1, ← hZ, hs_ne (by omega), ← hW, hs_ne b1, x4 b (by omega), y5 b b1], ?_, Or.inr ⟨rfl, rfl, rfl, ?_, ?_⟩⟩
    · simp (disch := first | exact ae_isR_ref _ | exact ae_isR_null | exact ae_isR_rf _ | exact ae_cat_ref _ | exact ae_cat_int _ | exact ae_cat_null | exact ae_cat_rf _ | exact ae_nz0 | exact ae_nz1 | exact ae_fz0 | exact ae_fz1 | exact cI_na (by omega) | exact cI_ix (by omega) | exact cI_nn (by omega) | exact cI_nz (by omega) | exact cI_cp (by omega) | assumption | omega) only [s_Jx4a65c_add_9ea2d_0, s_Jx4a65c_add_9ea2d_1, s_Jx4a65c_add_9ea2d_2, s_Jx4a65c_add_9ea2d_5, s_Jx4a65c_add_9ea2d_6, s_Jx4a65c_add_9ea2d_7, s_Jx4a65c_add_9ea2d_10, s_Jx4a65c_add_9ea2d_11, s_Jx4a65c_add_9ea2d_12, s_Jx4a65c_add_9ea2d_13, s_Jx4a65c_add_9ea2d_16, s_Jx4a65c_add_9ea2d_17, s_Jx4a65c_add_9ea2d_20 y1, s_Jx4a65c_add_9ea2d_23, s_Jx4a65c_add_9ea2d_24, e_Jx4a65c_add_9ea2d, s_Jx4a65c_add_72be8_0, s_Jx4a65c_add_72be8_1, s_Jx4a65c_add_72be8_2, s_Jx4a65c_add_72be8_3, s_Jx4a65c_add_72be8_6, s_Jx4a65c_add_72be8_7 y1, s_Jx4a65c_add_72be8_10, s_Jx4a65c_add_72be8_11, s_Jx4a65c_add_72be8_12, s_Jx4a65c_add_72be8_13, e_Jx4a65c_add_72be8, g14, s_Jx4a65c_add_72be8_15, s_Jx4a65c_add_72be8_16, s_Jx4a65c_add_72be8_17, s_Jx4a65c_add_72be8_18, s_Jx4a65c_add_72be8_19, s_Jx4a65c_add_72be8_22, og_0, og_1, og_2, og_3, og_4, og_5, og_6, og_7, og_8, og_9, og_10, og_11, og_12, op_6, op_8, op_9, op_10, op_11, op_12, dg_0, dg_1, dg_2, dg_3, dp_1, dp_2, dp_3, ng_b, ng_d, mz_m, ms_m, ov_2, nset_d, nset_b, uI_1, uI_2, uR_1, uR_21, uR_22, va_rf, Bool.false_eq_true, ae_Ki, ae_Kb, ae_Kj, ae_Ka, ae_Si, ae_Sb, ae_Sj, ae_Sn, List.getElem?_cons_succ, List.getElem?_cons_zero, ↓reduceIte, if_true, if_false, nI_ofNat, true_or, or_true, false_or, or_false, true_and, and_true, false_and, and_false, or_self, and_self, not_true_eq_false, not_false_eq_true, eq_self, List.length_cons, List.length_nil, Nat.reduceAdd, Nat.reduceLT, Nat.reduceSub, List.set_cons_succ, List.set_cons_zero, Option.toList, List.nil_append, List.cons_append, cI_ltT, cI_ltF, cI_leT, cI_leF, cI_eqT, cI_eqF, cI_cl, cN_leT, cN_leF, cN_ltT, cN_ltF, cN_eqT, cN_eqF, cI_add, cI_sub, cI_m1a, cI_m1b, cI_m1c, cI_m1d, cI_m1e, cI_m1f, o0, op0, hY, o1, o2, oz, x1, op2]
    · show Z.2.2.2 = _
      rw [hZ2]
    · show Z.2.1 = _
      rw [hZ2]
    · show Z.2.2.1 = _
      rw [hZ2]
end ALA
