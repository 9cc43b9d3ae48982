/-! bits of variables; NarrowSolver: the tape read -/
def bt (k : Nat) : Int32 := nI 1 <<< (nI k &&& 31)
theorem bt_bit : ∀ k, k < 10 → ∀ i, i < 32 → (bt k).toBitVec.getLsbD i = decide (i = k) := by decide +kernel
def hb (s : Int32) (k : Nat) : Bool := s.toBitVec.getLsbD k
theorem and_nz {s : Int32} {k : Nat} (hk : k < 10) : (s &&& bt k = nI 0) = (hb s k = false) := by
  apply propext
  unfold hb
  constructor
  · intro h
    have := congrArg (fun z : Int32 => z.toBitVec.getLsbD k) h
    simp only [Int32.toBitVec_and, BitVec.getLsbD_and, bt_bit k hk k (by omega), decide_true, Bool.and_true] at this
    rw [this]
    show (0#32).getLsbD k = false
    simp
  · intro h
    apply Int32.toBitVec_inj.mp
    apply BitVec.eq_of_getLsbD_eq
    intro i hi
    rw [Int32.toBitVec_and, BitVec.getLsbD_and, bt_bit k hk i hi]
    show _ = (0#32).getLsbD i
    by_cases c : i = k
    · subst c; simp [h]
    · simp [c]
theorem or_hb {s : Int32} {j k : Nat} (hj : j < 10) (hk : k < 10) : hb (s ||| bt j) k = (hb s k || decide (k = j)) := by
  unfold hb
  rw [Int32.toBitVec_or, BitVec.getLsbD_or, bt_bit j hj k (by omega)]
theorem not_nz {s : Int32} {k : Nat} (hk : k < 10) : (bt k &&& (s ^^^ (-1)) = nI 0) = (hb s k = true) := by
  apply propext
  unfold hb
  have hx : ∀ i, i < 32 → (s ^^^ (-1)).toBitVec.getLsbD i = !s.toBitVec.getLsbD i := fun i hi => by
    rw [Int32.toBitVec_xor, BitVec.getLsbD_xor]
    have : ((-1 : Int32)).toBitVec = BitVec.allOnes 32 := by decide
    rw [this, BitVec.getLsbD_allOnes]
    simp [hi]
  constructor
  · intro h
    have := congrArg (fun z : Int32 => z.toBitVec.getLsbD k) h
    simp only [Int32.toBitVec_and, BitVec.getLsbD_and, bt_bit k hk k (by omega), decide_true, Bool.true_and, hx k (by omega)] at this
    have h0 : (nI 0).toBitVec.getLsbD k = false := by
      show (0#32).getLsbD k = false
      simp
    rw [h0] at this
    simpa using this
  · intro h
    apply Int32.toBitVec_inj.mp
    apply BitVec.eq_of_getLsbD_eq
    intro i hi
    rw [Int32.toBitVec_and, BitVec.getLsbD_and, bt_bit k hk i hi, hx i hi]
    show _ = (0#32).getLsbD i
    by_cases c : i = k
    · subst c; simp [h]
    · simp [c]
theorem hb_0 {k : Nat} : hb (nI 0) k = false := by
  show (0#32).getLsbD k = false
  simp
def tpk (G : ah_H) (x : Nat) (tp : List Nat) : Prop := ∃ g, nmb G (x + 4) 120 g tp.length ∧ rowl tp g ∧ tp.length ≤ 120 ∧ sml tp
/-- the variables seen before i -/
def sn (tp : List Nat) (s : Int32) (i : Nat) : Prop := ∀ j, j < 10 → (hb s j = true ↔ ∃ k, 1 ≤ k ∧ k < i ∧ tp.getD k 0 = 100 + j)
theorem i32_a0 (s : Int32) : s &&& nI 0 = nI 0 := by
  apply Int32.toBitVec_inj.mp
  rw [Int32.toBitVec_and]
  show s.toBitVec &&& 0#32 = 0#32
  simp
theorem i32_0a (s : Int32) : nI 0 &&& s = nI 0 := by
  apply Int32.toBitVec_inj.mp
  rw [Int32.toBitVec_and]
  show 0#32 &&& s.toBitVec = 0#32
  simp
theorem i32_o0 (s : Int32) : s ||| nI 0 = s := by
  apply Int32.toBitVec_inj.mp
  rw [Int32.toBitVec_or]
  show s.toBitVec ||| 0#32 = s.toBitVec
  simp
section TAP
variable {d : Nat} {Q : Option Value → ah_H → Prop} {G : ah_H} {x : Nat} {A : Nat → Nat} {ns : Nat} {ar fn : Nat → Int32} {F : Nat → Bool} {tp : List Nat}
theorem m_X7_has {v : Nat} (hs : sym G (x + 1) ns ar fn) (hns : ns ≤ 24) (hv : v < 2147483648) : ae_wm d mX7_has [.ref (x + 1), .int (nI v)] G Q = Q (some (.int (if v < ns then nI 1 else nI 0))) G := by
  by_cases c : v < ns
  · simp (disch := first | exact ae_isR_ref _ | exact ae_isR_null | exact ae_isR_rf _ | exact ae_cat_ref _ | exact ae_cat_int _ | exact ae_cat_null | exact ae_cat_rf _ | exact ae_nz0 | exact ae_nz1 | exact ae_fz0 | exact ae_fz1 | exact cI_na (by omega) | exact cI_ix (by omega) | exact cI_nn (by omega) | exact cI_nz (by omega) | exact cI_cp (by omega) | assumption | omega) only [s_X7_has_0, s_X7_has_1, s_X7_has_4, s_X7_has_5, s_X7_has_6, s_X7_has_9, s_X7_has_12, s_X7_has_13, s_X7_has_16, s_X7_has_17, e_X7_has, Bool.false_eq_true, ae_gw, ae_pw, ae_zw, ae_Ki, ae_Kb, ae_Kj, ae_Ka, ae_Si, ae_Sb, ae_Sj, ae_Sn, List.getElem?_cons_succ, List.getElem?_cons_zero, ↓reduceIte, if_true, if_false, nI_ofNat, true_or, or_true, false_or, or_false, true_and, and_true, false_and, and_false, or_self, and_self, not_true_eq_false, not_false_eq_true, eq_self, List.length_cons, List.length_nil, Nat.reduceAdd, Nat.reduceLT, Nat.reduceSub, List.set_cons_succ, List.set_cons_zero, Option.toList, List.nil_append, List.cons_append, cI_ltT, cI_ltF, cI_leT, cI_leF, cI_eqT, cI_eqF, cI_cl, cN_leT, cN_leF, cN_ltT, cN_ltF, cN_eqT, cN_eqF, cI_add, cI_sub, cI_m1a, cI_m1b, cI_m1c, cI_m1d, cI_m1e, cI_m1f, hs_eq, hs_ne, hs_2, hs_hs, hn_eq, hn_ne, hn_21, hn_22, hn_23, hs.1]
  · simp (disch := first | exact ae_isR_ref _ | exact ae_isR_null | exact ae_isR_rf _ | exact ae_cat_ref _ | exact ae_cat_int _ | exact ae_cat_null | exact ae_cat_rf _ | exact ae_nz0 | exact ae_nz1 | exact ae_fz0 | exact ae_fz1 | exact cI_na (by omega) | exact cI_ix (by omega) | exact cI_nn (by omega) | exact cI_nz (by omega) | exact cI_cp (by omega) | assumption | omega) only [s_X7_has_0, s_X7_has_1, s_X7_has_4, s_X7_has_5, s_X7_has_6, s_X7_has_9, s_X7_has_12, s_X7_has_13, s_X7_has_16, s_X7_has_17, e_X7_has, Bool.false_eq_true, ae_gw, ae_pw, ae_zw, ae_Ki, ae_Kb, ae_Kj, ae_Ka, ae_Si, ae_Sb, ae_Sj, ae_Sn, List.getElem?_cons_succ, List.getElem?_cons_zero, ↓reduceIte, if_true, if_false, nI_ofNat, true_or, or_true, false_or, or_false, true_and, and_true, false_and, and_false, or_self, and_self, not_true_eq_false, not_false_eq_true, eq_self, List.length_cons, List.length_nil, Nat.reduceAdd, Nat.reduceLT, Nat.reduceSub, List.set_cons_succ, List.set_cons_zero, Option.toList, List.nil_append, List.cons_append, cI_ltT, cI_ltF, cI_leT, cI_leF, cI_eqT, cI_eqF, cI_cl, cN_leT, cN_leF, cN_ltT, cN_ltF, cN_eqT, cN_eqF, cI_add, cI_sub, cI_m1a, cI_m1b, cI_m1c, cI_m1d, cI_m1e, cI_m1f, hs_eq, hs_ne, hs_2, hs_hs, hn_eq, hn_ne, hn_21, hn_22, hn_23, hs.1]
theorem tp_at (ht : tpk G x tp) {i : Nat} (hi : i < tp.length) : ∀ Q, ae_wm d mX1_at [.ref (x + 4), .int (nI i)] G Q = Q (some (.int (nI (tp.getD i 0)))) G := by
  obtain ⟨g, t1, t2, t3, t4⟩ := ht
  exact fun Q => m_X1_at_l t1 (by omega) t2 hi t3
theorem tp_gw (ht : tpk G x tp) (K : Value → Prop) : ae_gw G (x + 4) 1 1 K = K (.int (nI tp.length)) := by
  obtain ⟨g, t1, t2, t3, t4⟩ := ht
  unfold ae_gw
  rw [t1.1]
  rfl
theorem m_X10_eot_loop (hf : fac G x) (hs : sym G (x + 1) ns ar fn) (hA : arl A ns ar) (ht : tpk G x tp) {l1 : Option Value} : ∀ (k ms i : Nat) (l4 l5 : Option Value), tp.length = i + k → 1 ≤ ms → ms + 3 * k < 2147483648 → ae_wp (d + 1) mX10_endOnTape 4 [some (.ref x), l1, some (.int (nI ms)), some (.int (nI i)), l4, l5] [] G Q = Q (some (.int (rdv (rdo A ns tp k ms i)))) G := by
  have hns := hA.1
  have ht0 := ht
  obtain ⟨g, t1, t2, t3, t4⟩ := ht0
  have o1 : ∀ K, ae_gw G x 10 1 K = K (.ref (x + 4)) := fun K => by unfold ae_gw; rw [hf]; rfl
  have o0 : ∀ K, ae_gw G x 10 0 K = K (.ref (x + 1)) := fun K => by unfold ae_gw; rw [hf]; rfl
  have oz := tp_gw ht
  intro k
  induction k with
  | zero =>
    intro ms i l4 l5 hk h1 h2
    have e : rdo A ns tp 0 ms i = .inl (-12) := by rw [rdo, if_neg (by omega)]
    rw [e]
    simp (disch := first | exact ae_isR_ref _ | exact ae_isR_null | exact ae_isR_rf _ | exact ae_cat_ref _ | exact ae_cat_int _ | exact ae_cat_null | exact ae_cat_rf _ | exact ae_nz0 | exact ae_nz1 | exact ae_fz0 | exact ae_fz1 | exact cI_na (by omega) | exact cI_ix (by omega) | exact cI_nn (by omega) | exact cI_nz (by omega) | exact cI_cp (by omega) | assumption | omega) only [s_X10_endOnTape_4, s_X10_endOnTape_5, s_X10_endOnTape_6, s_X10_endOnTape_9, s_X10_endOnTape_12, s_X10_endOnTape_94, s_X10_endOnTape_96, og_0, og_1, og_2, og_3, og_4, og_5, og_6, og_7, og_8, og_9, og_10, og_11, og_12, op_6, op_8, op_9, op_10, op_11, op_12, dg_0, dg_1, dg_2, dg_3, dp_1, dp_2, dp_3, ng_b, ng_d, mz_m, ms_m, ov_2, nset_d, nset_b, uI_1, uI_2, uR_1, uR_21, uR_22, va_rf, Bool.false_eq_true, ae_Ki, ae_Kb, ae_Kj, ae_Ka, ae_Si, ae_Sb, ae_Sj, ae_Sn, List.getElem?_cons_succ, List.getElem?_cons_zero, ↓reduceIte, if_true, if_false, nI_ofNat, true_or, or_true, false_or, or_false, true_and, and_true, false_and, and_false, or_self, and_self, not_true_eq_false, not_false_eq_true, eq_self, List.length_cons, List.length_nil, Nat.reduceAdd, Nat.reduceLT, Nat.reduceSub, List.set_cons_succ, List.set_cons_zero, Option.toList, List.nil_append, List.cons_append, cI_ltT, cI_ltF, cI_leT, cI_leF, cI_eqT, cI_eqF, cI_cl, cN_leT, cN_leF, cN_ltT, cN_ltF, cN_eqT, cN_eqF, cI_add, cI_sub, cI_m1a, cI_m1b, cI_m1c, cI_m1d, cI_m1e, cI_m1f, o1, oz, rdv]
  | succ k ih =>
    intro ms i l4 l5 hk h1 h2
    have hil : i < tp.length := by omega
    have ga := fun Q => tp_at (d := d) ht hil Q
    have hb := t4 i hil
    have gh := fun Q => m_X7_has (d := d) (Q := Q) (v := tp.getD i 0) hs hns (by omega)
    have gg := fun Q => m_X7_argumentsOf (d := d) (Q := Q) (v := tp.getD i 0) hs hA (by omega)
    have hA3 := arl_le hA (tp.getD i 0)
    by_cases c2 : tp.getD i 0 < ns ∨ (100 ≤ tp.getD i 0 ∧ tp.getD i 0 < 110)
    · have e : rdo A ns tp (k + 1) ms i = rdo A ns tp k (ms + A (tp.getD i 0) - 1) (i + 1) := by rw [rdo, if_neg (by omega), if_pos (show knw ns (tp.getD i 0) = true from decide_eq_true c2)]
      rw [e]
      have hpre : ae_wp (d + 1) mX10_endOnTape 4 [some (.ref x), l1, some (.int (nI ms)), some (.int (nI i)), l4, l5] [] G Q = ae_wp (d + 1) mX10_endOnTape 80 [some (.ref x), l1, some (.int (nI (ms + A (tp.getD i 0) - 1))), some (.int (nI i)), some (.int (nI (tp.getD i 0))), some (.int (if 100 ≤ tp.getD i 0 then nI 1 else nI 0))] [] G Q := by
        by_cases c3 : 100 ≤ tp.getD i 0
        · simp (disch := first | exact ae_isR_ref _ | exact ae_isR_null | exact ae_isR_rf _ | exact ae_cat_ref _ | exact ae_cat_int _ | exact ae_cat_null | exact ae_cat_rf _ | exact ae_nz0 | exact ae_nz1 | exact ae_fz0 | exact ae_fz1 | exact cI_na (by omega) | exact cI_ix (by omega) | exact cI_nn (by omega) | exact cI_nz (by omega) | exact cI_cp (by omega) | assumption | omega) only [s_X10_endOnTape_4, s_X10_endOnTape_5, s_X10_endOnTape_6, s_X10_endOnTape_9, s_X10_endOnTape_12, s_X10_endOnTape_15, s_X10_endOnTape_16, s_X10_endOnTape_19, s_X10_endOnTape_20 t1.1, s_X10_endOnTape_23, s_X10_endOnTape_25, s_X10_endOnTape_27, s_X10_endOnTape_29, s_X10_endOnTape_32, s_X10_endOnTape_34, s_X10_endOnTape_36, s_X10_endOnTape_39, s_X10_endOnTape_40, s_X10_endOnTape_43, s_X10_endOnTape_44, s_X10_endOnTape_46, s_X10_endOnTape_48, s_X10_endOnTape_66, s_X10_endOnTape_67, s_X10_endOnTape_68, s_X10_endOnTape_71, s_X10_endOnTape_73 hs.1, s_X10_endOnTape_76, s_X10_endOnTape_77, s_X10_endOnTape_78, s_X10_endOnTape_79, og_0, og_1, og_2, og_3, og_4, og_5, og_6, og_7, og_8, og_9, og_10, og_11, og_12, op_6, op_8, op_9, op_10, op_11, op_12, dg_0, dg_1, dg_2, dg_3, dp_1, dp_2, dp_3, ng_b, ng_d, mz_m, ms_m, ov_2, nset_d, nset_b, uI_1, uI_2, uR_1, uR_21, uR_22, va_rf, Bool.false_eq_true, ae_Ki, ae_Kb, ae_Kj, ae_Ka, ae_Si, ae_Sb, ae_Sj, ae_Sn, List.getElem?_cons_succ, List.getElem?_cons_zero, ↓reduceIte, if_true, if_false, nI_ofNat, true_or, or_true, false_or, or_false, true_and, and_true, false_and, and_false, or_self, and_self, not_true_eq_false, not_false_eq_true, eq_self, List.length_cons, List.length_nil, Nat.reduceAdd, Nat.reduceLT, Nat.reduceSub, List.set_cons_succ, List.set_cons_zero, Option.toList, List.nil_append, List.cons_append, cI_ltT, cI_ltF, cI_leT, cI_leF, cI_eqT, cI_eqF, cI_cl, cN_leT, cN_leF, cN_ltT, cN_ltF, cN_eqT, cN_eqF, cI_add, cI_sub, cI_m1a, cI_m1b, cI_m1c, cI_m1d, cI_m1e, cI_m1f, o1, o0, oz, ga, gg, cI_miss]
        · have c4 : tp.getD i 0 < ns := by omega
          rw [if_pos c4] at gh
          simp (disch := first | exact ae_isR_ref _ | exact ae_isR_null | exact ae_isR_rf _ | exact ae_cat_ref _ | exact ae_cat_int _ | exact ae_cat_null | exact ae_cat_rf _ | exact ae_nz0 | exact ae_nz1 | exact ae_fz0 | exact ae_fz1 | exact cI_na (by omega) | exact cI_ix (by omega) | exact cI_nn (by omega) | exact cI_nz (by omega) | exact cI_cp (by omega) | assumption | omega) only [s_X10_endOnTape_4, s_X10_endOnTape_5, s_X10_endOnTape_6, s_X10_endOnTape_9, s_X10_endOnTape_12, s_X10_endOnTape_15, s_X10_endOnTape_16, s_X10_endOnTape_19, s_X10_endOnTape_20 t1.1, s_X10_endOnTape_23, s_X10_endOnTape_25, s_X10_endOnTape_27, s_X10_endOnTape_29, s_X10_endOnTape_32, s_X10_endOnTape_34, s_X10_endOnTape_36, s_X10_endOnTape_39, s_X10_endOnTape_40, s_X10_endOnTape_43, s_X10_endOnTape_44, s_X10_endOnTape_46, s_X10_endOnTape_48, s_X10_endOnTape_51, s_X10_endOnTape_52, s_X10_endOnTape_55, s_X10_endOnTape_57 hs.1, s_X10_endOnTape_60, s_X10_endOnTape_63, s_X10_endOnTape_65, s_X10_endOnTape_66, s_X10_endOnTape_67, s_X10_endOnTape_68, s_X10_endOnTape_71, s_X10_endOnTape_73 hs.1, s_X10_endOnTape_76, s_X10_endOnTape_77, s_X10_endOnTape_78, s_X10_endOnTape_79, og_0, og_1, og_2, og_3, og_4, og_5, og_6, og_7, og_8, og_9, og_10, og_11, og_12, op_6, op_8, op_9, op_10, op_11, op_12, dg_0, dg_1, dg_2, dg_3, dp_1, dp_2, dp_3, ng_b, ng_d, mz_m, ms_m, ov_2, nset_d, nset_b, uI_1, uI_2, uR_1, uR_21, uR_22, va_rf, Bool.false_eq_true, ae_Ki, ae_Kb, ae_Kj, ae_Ka, ae_Si, ae_Sb, ae_Sj, ae_Sn, List.getElem?_cons_succ, List.getElem?_cons_zero, ↓reduceIte, if_true, if_false, nI_ofNat, true_or, or_true, false_or, or_false, true_and, and_true, false_and, and_false, or_self, and_self, not_true_eq_false, not_false_eq_true, eq_self, List.length_cons, List.length_nil, Nat.reduceAdd, Nat.reduceLT, Nat.reduceSub, List.set_cons_succ, List.set_cons_zero, Option.toList, List.nil_append, List.cons_append, cI_ltT, cI_ltF, cI_leT, cI_leF, cI_eqT, cI_eqF, cI_cl, cN_leT, cN_leF, cN_ltT, cN_ltF, cN_eqT, cN_eqF, cI_add, cI_sub, cI_m1a, cI_m1b, cI_m1c, cI_m1d, cI_m1e, cI_m1f, o1, o0, oz, ga, gg, gh, cI_miss]
      rw [hpre]
      by_cases c5 : ms + A (tp.getD i 0) - 1 = 0
      · rw [c5]
        have e6 : rdo A ns tp k 0 (i + 1) = .inr (i + 1) := by cases k <;> rw [rdo, if_pos rfl]
        rw [e6]
        simp (disch := first | exact ae_isR_ref _ | exact ae_isR_null | exact ae_isR_rf _ | exact ae_cat_ref _ | exact ae_cat_int _ | exact ae_cat_null | exact ae_cat_rf _ | exact ae_nz0 | exact ae_nz1 | exact ae_fz0 | exact ae_fz1 | exact cI_na (by omega) | exact cI_ix (by omega) | exact cI_nn (by omega) | exact cI_nz (by omega) | exact cI_cp (by omega) | assumption | omega) only [s_X10_endOnTape_80, s_X10_endOnTape_81, s_X10_endOnTape_84, s_X10_endOnTape_85, s_X10_endOnTape_86, s_X10_endOnTape_87, og_0, og_1, og_2, og_3, og_4, og_5, og_6, og_7, og_8, og_9, og_10, og_11, og_12, op_6, op_8, op_9, op_10, op_11, op_12, dg_0, dg_1, dg_2, dg_3, dp_1, dp_2, dp_3, ng_b, ng_d, mz_m, ms_m, ov_2, nset_d, nset_b, uI_1, uI_2, uR_1, uR_21, uR_22, va_rf, Bool.false_eq_true, ae_Ki, ae_Kb, ae_Kj, ae_Ka, ae_Si, ae_Sb, ae_Sj, ae_Sn, List.getElem?_cons_succ, List.getElem?_cons_zero, ↓reduceIte, if_true, if_false, nI_ofNat, true_or, or_true, false_or, or_false, true_and, and_true, false_and, and_false, or_self, and_self, not_true_eq_false, not_false_eq_true, eq_self, List.length_cons, List.length_nil, Nat.reduceAdd, Nat.reduceLT, Nat.reduceSub, List.set_cons_succ, List.set_cons_zero, Option.toList, List.nil_append, List.cons_append, cI_ltT, cI_ltF, cI_leT, cI_leF, cI_eqT, cI_eqF, cI_cl, cN_leT, cN_leF, cN_ltT, cN_ltF, cN_eqT, cN_eqF, cI_add, cI_sub, cI_m1a, cI_m1b, cI_m1c, cI_m1d, cI_m1e, cI_m1f, rdv]
      · refine Eq.trans ?_ (s_X10_endOnTape_91.trans (ih (ms + A (tp.getD i 0) - 1) (i + 1) (some (.int (nI (tp.getD i 0)))) (some (.int (if 100 ≤ tp.getD i 0 then nI 1 else nI 0))) (by omega) (by omega) (by omega)))
        simp (disch := first | exact ae_isR_ref _ | exact ae_isR_null | exact ae_isR_rf _ | exact ae_cat_ref _ | exact ae_cat_int _ | exact ae_cat_null | exact ae_cat_rf _ | exact ae_nz0 | exact ae_nz1 | exact ae_fz0 | exact ae_fz1 | exact cI_na (by omega) | exact cI_ix (by omega) | exact cI_nn (by omega) | exact cI_nz (by omega) | exact cI_cp (by omega) | assumption | omega) only [s_X10_endOnTape_80, s_X10_endOnTape_81, s_X10_endOnTape_88, og_0, og_1, og_2, og_3, og_4, og_5, og_6, og_7, og_8, og_9, og_10, og_11, og_12, op_6, op_8, op_9, op_10, op_11, op_12, dg_0, dg_1, dg_2, dg_3, dp_1, dp_2, dp_3, ng_b, ng_d, mz_m, ms_m, ov_2, nset_d, nset_b, uI_1, uI_2, uR_1, uR_21, uR_22, va_rf, Bool.false_eq_true, ae_Ki, ae_Kb, ae_Kj, ae_Ka, ae_Si, ae_Sb, ae_Sj, ae_Sn, List.getElem?_cons_succ, List.getElem?_cons_zero, ↓reduceIte, if_true, if_false, nI_ofNat, true_or, or_true, false_or, or_false, true_and, and_true, false_and, and_false, or_self, and_self, not_true_eq_false, not_false_eq_true, eq_self, List.length_cons, List.length_nil, Nat.reduceAdd, Nat.reduceLT, Nat.reduceSub, List.set_cons_succ, List.set_cons_zero, Option.toList, List.nil_append, List.cons_append, cI_ltT, cI_ltF, cI_leT, cI_leF, cI_eqT, cI_eqF, cI_cl, cN_leT, cN_leF, cN_ltT, cN_ltF, cN_eqT, cN_eqF, cI_add, cI_sub, cI_m1a, cI_m1b, cI_m1c, cI_m1d, cI_m1e, cI_m1f]
    · have e : rdo A ns tp (k + 1) ms i = .inl (-11) := by rw [rdo, if_neg (by omega), if_neg (by rw [knw, decide_eq_false c2]; decide)]
      rw [e]
      rw [if_neg (by omega)] at gh
      by_cases c3 : 100 ≤ tp.getD i 0
      · simp (disch := first | exact ae_isR_ref _ | exact ae_isR_null | exact ae_isR_rf _ | exact ae_cat_ref _ | exact ae_cat_int _ | exact ae_cat_null | exact ae_cat_rf _ | exact ae_nz0 | exact ae_nz1 | exact ae_fz0 | exact ae_fz1 | exact cI_na (by omega) | exact cI_ix (by omega) | exact cI_nn (by omega) | exact cI_nz (by omega) | exact cI_cp (by omega) | assumption | omega) only [s_X10_endOnTape_4, s_X10_endOnTape_5, s_X10_endOnTape_6, s_X10_endOnTape_9, s_X10_endOnTape_12, s_X10_endOnTape_15, s_X10_endOnTape_16, s_X10_endOnTape_19, s_X10_endOnTape_20 t1.1, s_X10_endOnTape_23, s_X10_endOnTape_25, s_X10_endOnTape_27, s_X10_endOnTape_29, s_X10_endOnTape_32, s_X10_endOnTape_34, s_X10_endOnTape_36, s_X10_endOnTape_39, s_X10_endOnTape_40, s_X10_endOnTape_43, s_X10_endOnTape_44, s_X10_endOnTape_46, s_X10_endOnTape_48, s_X10_endOnTape_51, s_X10_endOnTape_52, s_X10_endOnTape_55, s_X10_endOnTape_57 hs.1, s_X10_endOnTape_60, s_X10_endOnTape_63, s_X10_endOnTape_65, og_0, og_1, og_2, og_3, og_4, og_5, og_6, og_7, og_8, og_9, og_10, og_11, og_12, op_6, op_8, op_9, op_10, op_11, op_12, dg_0, dg_1, dg_2, dg_3, dp_1, dp_2, dp_3, ng_b, ng_d, mz_m, ms_m, ov_2, nset_d, nset_b, uI_1, uI_2, uR_1, uR_21, uR_22, va_rf, Bool.false_eq_true, ae_Ki, ae_Kb, ae_Kj, ae_Ka, ae_Si, ae_Sb, ae_Sj, ae_Sn, List.getElem?_cons_succ, List.getElem?_cons_zero, ↓reduceIte, if_true, if_false, nI_ofNat, true_or, or_true, false_or, or_false, true_and, and_true, false_and, and_false, or_self, and_self, not_true_eq_false, not_false_eq_true, eq_self, List.length_cons, List.length_nil, Nat.reduceAdd, Nat.reduceLT, Nat.reduceSub, List.set_cons_succ, List.set_cons_zero, Option.toList, List.nil_append, List.cons_append, cI_ltT, cI_ltF, cI_leT, cI_leF, cI_eqT, cI_eqF, cI_cl, cN_leT, cN_leF, cN_ltT, cN_ltF, cN_eqT, cN_eqF, cI_add, cI_sub, cI_m1a, cI_m1b, cI_m1c, cI_m1d, cI_m1e, cI_m1f, o1, o0, oz, ga, gh, rdv]
      · simp (disch := first | exact ae_isR_ref _ | exact ae_isR_null | exact ae_isR_rf _ | exact ae_cat_ref _ | exact ae_cat_int _ | exact ae_cat_null | exact ae_cat_rf _ | exact ae_nz0 | exact ae_nz1 | exact ae_fz0 | exact ae_fz1 | exact cI_na (by omega) | exact cI_ix (by omega) | exact cI_nn (by omega) | exact cI_nz (by omega) | exact cI_cp (by omega) | assumption | omega) only [s_X10_endOnTape_4, s_X10_endOnTape_5, s_X10_endOnTape_6, s_X10_endOnTape_9, s_X10_endOnTape_12, s_X10_endOnTape_15, s_X10_endOnTape_16, s_X10_endOnTape_19, s_X10_endOnTape_20 t1.1, s_X10_endOnTape_23, s_X10_endOnTape_25, s_X10_endOnTape_27, s_X10_endOnTape_29, s_X10_endOnTape_32, s_X10_endOnTape_34, s_X10_endOnTape_36, s_X10_endOnTape_39, s_X10_endOnTape_40, s_X10_endOnTape_43, s_X10_endOnTape_44, s_X10_endOnTape_46, s_X10_endOnTape_48, s_X10_endOnTape_51, s_X10_endOnTape_52, s_X10_endOnTape_55, s_X10_endOnTape_57 hs.1, s_X10_endOnTape_60, s_X10_endOnTape_63, s_X10_endOnTape_65, og_0, og_1, og_2, og_3, og_4, og_5, og_6, og_7, og_8, og_9, og_10, og_11, og_12, op_6, op_8, op_9, op_10, op_11, op_12, dg_0, dg_1, dg_2, dg_3, dp_1, dp_2, dp_3, ng_b, ng_d, mz_m, ms_m, ov_2, nset_d, nset_b, uI_1, uI_2, uR_1, uR_21, uR_22, va_rf, Bool.false_eq_true, ae_Ki, ae_Kb, ae_Kj, ae_Ka, ae_Si, ae_Sb, ae_Sj, ae_Sn, List.getElem?_cons_succ, List.getElem?_cons_zero, ↓reduceIte, if_true, if_false, nI_ofNat, true_or, or_true, false_or, or_false, true_and, and_true, false_and, and_false, or_self, and_self, not_true_eq_false, not_false_eq_true, eq_self, List.length_cons, List.length_nil, Nat.reduceAdd, Nat.reduceLT, Nat.reduceSub, List.set_cons_succ, List.set_cons_zero, Option.toList, List.nil_append, List.cons_append, cI_ltT, cI_ltF, cI_leT, cI_leF, cI_eqT, cI_eqF, cI_cl, cN_leT, cN_leF, cN_ltT, cN_ltF, cN_eqT, cN_eqF, cI_add, cI_sub, cI_m1a, cI_m1b, cI_m1c, cI_m1d, cI_m1e, cI_m1f, o1, o0, oz, ga, gh, rdv]
theorem m_X10_endOnTape (hf : fac G x) (hs : sym G (x + 1) ns ar fn) (hA : arl A ns ar) (ht : tpk G x tp) {i : Nat} (hi : i ≤ tp.length) : ae_wm (d + 1) mX10_endOnTape [.ref x, .int (nI i)] G Q = Q (some (.int (rdv (rdt A ns tp i)))) G := by
  have t3 : tp.length ≤ 120 := by obtain ⟨g, t1, t2, t3, t4⟩ := ht; exact t3
  have g := m_X10_eot_loop (d := d) (Q := Q) hf hs hA ht (l1 := some (.int (nI i))) (tp.length - i) 1 i none none (by omega) (by omega) (by omega)
  simp (disch := first | exact ae_isR_ref _ | exact ae_isR_null | exact ae_isR_rf _ | exact ae_cat_ref _ | exact ae_cat_int _ | exact ae_cat_null | exact ae_cat_rf _ | exact ae_nz0 | exact ae_nz1 | exact ae_fz0 | exact ae_fz1 | exact cI_na (by omega) | exact cI_ix (by omega) | exact cI_nn (by omega) | exact cI_nz (by omega) | exact cI_cp (by omega) | assumption | omega) only [s_X10_endOnTape_0, s_X10_endOnTape_1, s_X10_endOnTape_2, s_X10_endOnTape_3, e_X10_endOnTape, g, rdt]
theorem m_X10_eq_loop (hf : fac G x) (hs : sym G (x + 1) ns ar fn) (hA : arl A ns ar) (ht : tpk G x tp) : ∀ (k at_ t : Nat), tp.length < at_ + k → at_ ≤ tp.length → t ≤ at_ → ae_wp (d + 2) mX10_equationsOnTape 4 [some (.ref x), some (.int (nI t)), some (.int (nI at_))] [] G Q = match prl A ns tp k at_ t with
    | .inl v => Q (some (.int v)) G
    | .inr t2 => if t2 % 2 = 1 then Q (some (.int (-12))) G else Q (some (.int (nI (t2 / 2)))) G := by
  have ht0 := ht
  obtain ⟨g, t1, t2, t3, t4⟩ := ht0
  have o1 : ∀ K, ae_gw G x 10 1 K = K (.ref (x + 4)) := fun K => by unfold ae_gw; rw [hf]; rfl
  have oz := tp_gw ht
  intro k
  induction k with
  | zero => intro at_ t h1 h2; omega
  | succ k ih =>
    intro at_ t h1 h2 h3
    simp only [prl]
    by_cases c : at_ < tp.length
    · rw [if_pos c]
      have ge := fun Q => m_X10_endOnTape (d := d) (Q := Q) hf hs hA ht (i := at_) h2
      cases e : rdt A ns tp at_ with
      | inl v1 =>
        rw [e] at ge
        have hv : v1 < nI 0 := by rcases rdo_inl _ _ _ _ e with z | z <;> rw [z] <;> decide +kernel
        simp (disch := first | exact ae_isR_ref _ | exact ae_isR_null | exact ae_isR_rf _ | exact ae_cat_ref _ | exact ae_cat_int _ | exact ae_cat_null | exact ae_cat_rf _ | exact ae_nz0 | exact ae_nz1 | exact ae_fz0 | exact ae_fz1 | exact cI_na (by omega) | exact cI_ix (by omega) | exact cI_nn (by omega) | exact cI_nz (by omega) | exact cI_cp (by omega) | assumption | omega) only [s_X10_equationsOnTape_4, s_X10_equationsOnTape_5, s_X10_equationsOnTape_6, s_X10_equationsOnTape_9, s_X10_equationsOnTape_12, s_X10_equationsOnTape_15, s_X10_equationsOnTape_16, s_X10_equationsOnTape_18, s_X10_equationsOnTape_21, s_X10_equationsOnTape_22, s_X10_equationsOnTape_23 hf, s_X10_equationsOnTape_26, s_X10_equationsOnTape_27, s_X10_equationsOnTape_28, s_X10_equationsOnTape_31, s_X10_equationsOnTape_32, og_0, og_1, og_2, og_3, og_4, og_5, og_6, og_7, og_8, og_9, og_10, og_11, og_12, op_6, op_8, op_9, op_10, op_11, op_12, dg_0, dg_1, dg_2, dg_3, dp_1, dp_2, dp_3, ng_b, ng_d, mz_m, ms_m, ov_2, nset_d, nset_b, uI_1, uI_2, uR_1, uR_21, uR_22, va_rf, Bool.false_eq_true, ae_Ki, ae_Kb, ae_Kj, ae_Ka, ae_Si, ae_Sb, ae_Sj, ae_Sn, List.getElem?_cons_succ, List.getElem?_cons_zero, ↓reduceIte, if_true, if_false, nI_ofNat, true_or, or_true, false_or, or_false, true_and, and_true, false_and, and_false, or_self, and_self, not_true_eq_false, not_false_eq_true, eq_self, List.length_cons, List.length_nil, Nat.reduceAdd, Nat.reduceLT, Nat.reduceSub, List.set_cons_succ, List.set_cons_zero, Option.toList, List.nil_append, List.cons_append, cI_ltT, cI_ltF, cI_leT, cI_leF, cI_eqT, cI_eqF, cI_cl, cN_leT, cN_leF, cN_ltT, cN_ltF, cN_eqT, cN_eqF, cI_add, cI_sub, cI_m1a, cI_m1b, cI_m1c, cI_m1d, cI_m1e, cI_m1f, o1, oz, ge, rdv, ng_le hv]
      | inr j =>
        rw [e] at ge
        obtain ⟨b1, b2, b3, b4, b5⟩ := rdo_inr _ _ _ _ (by omega) e
        have b6 : at_ < j := by
          rcases Nat.lt_or_ge at_ j with z | z
          · exact z
          · have : j = at_ := by omega
            rw [this, sl_nil (Nat.le_refl _)] at b3
            simp [rn] at b3
        refine Eq.trans ?_ (s_X10_equationsOnTape_36.trans (ih j (t + 1) (by omega) b2 (by omega)))
        simp (disch := first | exact ae_isR_ref _ | exact ae_isR_null | exact ae_isR_rf _ | exact ae_cat_ref _ | exact ae_cat_int _ | exact ae_cat_null | exact ae_cat_rf _ | exact ae_nz0 | exact ae_nz1 | exact ae_fz0 | exact ae_fz1 | exact cI_na (by omega) | exact cI_ix (by omega) | exact cI_nn (by omega) | exact cI_nz (by omega) | exact cI_cp (by omega) | assumption | omega) only [s_X10_equationsOnTape_4, s_X10_equationsOnTape_5, s_X10_equationsOnTape_6, s_X10_equationsOnTape_9, s_X10_equationsOnTape_12, s_X10_equationsOnTape_15, s_X10_equationsOnTape_16, s_X10_equationsOnTape_18, s_X10_equationsOnTape_21, s_X10_equationsOnTape_22, s_X10_equationsOnTape_23 hf, s_X10_equationsOnTape_26, s_X10_equationsOnTape_27, s_X10_equationsOnTape_28, s_X10_equationsOnTape_31, s_X10_equationsOnTape_32, s_X10_equationsOnTape_33, og_0, og_1, og_2, og_3, og_4, og_5, og_6, og_7, og_8, og_9, og_10, og_11, og_12, op_6, op_8, op_9, op_10, op_11, op_12, dg_0, dg_1, dg_2, dg_3, dp_1, dp_2, dp_3, ng_b, ng_d, mz_m, ms_m, ov_2, nset_d, nset_b, uI_1, uI_2, uR_1, uR_21, uR_22, va_rf, Bool.false_eq_true, ae_Ki, ae_Kb, ae_Kj, ae_Ka, ae_Si, ae_Sb, ae_Sj, ae_Sn, List.getElem?_cons_succ, List.getElem?_cons_zero, ↓reduceIte, if_true, if_false, nI_ofNat, true_or, or_true, false_or, or_false, true_and, and_true, false_and, and_false, or_self, and_self, not_true_eq_false, not_false_eq_true, eq_self, List.length_cons, List.length_nil, Nat.reduceAdd, Nat.reduceLT, Nat.reduceSub, List.set_cons_succ, List.set_cons_zero, Option.toList, List.nil_append, List.cons_append, cI_ltT, cI_ltF, cI_leT, cI_leF, cI_eqT, cI_eqF, cI_cl, cN_leT, cN_leF, cN_ltT, cN_ltF, cN_eqT, cN_eqF, cI_add, cI_sub, cI_m1a, cI_m1b, cI_m1c, cI_m1d, cI_m1e, cI_m1f, o1, oz, ge, rdv]
    · rw [if_neg c]
      obtain ⟨q1, q2⟩ := half_ok t (by omega)
      dsimp only
      by_cases c2 : t % 2 = 1
      · rw [if_pos c2]
        rw [c2] at q2
        simp (disch := first | exact ae_isR_ref _ | exact ae_isR_null | exact ae_isR_rf _ | exact ae_cat_ref _ | exact ae_cat_int _ | exact ae_cat_null | exact ae_cat_rf _ | exact ae_nz0 | exact ae_nz1 | exact ae_fz0 | exact ae_fz1 | exact cI_na (by omega) | exact cI_ix (by omega) | exact cI_nn (by omega) | exact cI_nz (by omega) | exact cI_cp (by omega) | assumption | omega) only [s_X10_equationsOnTape_4, s_X10_equationsOnTape_5, s_X10_equationsOnTape_6, s_X10_equationsOnTape_9, s_X10_equationsOnTape_12, s_X10_equationsOnTape_39, s_X10_equationsOnTape_40, s_X10_equationsOnTape_41, s_X10_equationsOnTape_42, s_X10_equationsOnTape_45, s_X10_equationsOnTape_46, s_X10_equationsOnTape_47, s_X10_equationsOnTape_48, s_X10_equationsOnTape_51, s_X10_equationsOnTape_53, og_0, og_1, og_2, og_3, og_4, og_5, og_6, og_7, og_8, og_9, og_10, og_11, og_12, op_6, op_8, op_9, op_10, op_11, op_12, dg_0, dg_1, dg_2, dg_3, dp_1, dp_2, dp_3, ng_b, ng_d, mz_m, ms_m, ov_2, nset_d, nset_b, uI_1, uI_2, uR_1, uR_21, uR_22, va_rf, Bool.false_eq_true, ae_Ki, ae_Kb, ae_Kj, ae_Ka, ae_Si, ae_Sb, ae_Sj, ae_Sn, List.getElem?_cons_succ, List.getElem?_cons_zero, ↓reduceIte, if_true, if_false, nI_ofNat, true_or, or_true, false_or, or_false, true_and, and_true, false_and, and_false, or_self, and_self, not_true_eq_false, not_false_eq_true, eq_self, List.length_cons, List.length_nil, Nat.reduceAdd, Nat.reduceLT, Nat.reduceSub, List.set_cons_succ, List.set_cons_zero, Option.toList, List.nil_append, List.cons_append, cI_ltT, cI_ltF, cI_leT, cI_leF, cI_eqT, cI_eqF, cI_cl, cN_leT, cN_leF, cN_ltT, cN_ltF, cN_eqT, cN_eqF, cI_add, cI_sub, cI_m1a, cI_m1b, cI_m1c, cI_m1d, cI_m1e, cI_m1f, o1, oz, q1, q2]
      · rw [if_neg c2]
        rw [show t % 2 = 0 by omega] at q2
        simp (disch := first | exact ae_isR_ref _ | exact ae_isR_null | exact ae_isR_rf _ | exact ae_cat_ref _ | exact ae_cat_int _ | exact ae_cat_null | exact ae_cat_rf _ | exact ae_nz0 | exact ae_nz1 | exact ae_fz0 | exact ae_fz1 | exact cI_na (by omega) | exact cI_ix (by omega) | exact cI_nn (by omega) | exact cI_nz (by omega) | exact cI_cp (by omega) | assumption | omega) only [s_X10_equationsOnTape_4, s_X10_equationsOnTape_5, s_X10_equationsOnTape_6, s_X10_equationsOnTape_9, s_X10_equationsOnTape_12, s_X10_equationsOnTape_39, s_X10_equationsOnTape_40, s_X10_equationsOnTape_41, s_X10_equationsOnTape_42, s_X10_equationsOnTape_45, s_X10_equationsOnTape_46, s_X10_equationsOnTape_47, s_X10_equationsOnTape_48, s_X10_equationsOnTape_51, s_X10_equationsOnTape_53, og_0, og_1, og_2, og_3, og_4, og_5, og_6, og_7, og_8, og_9, og_10, og_11, og_12, op_6, op_8, op_9, op_10, op_11, op_12, dg_0, dg_1, dg_2, dg_3, dp_1, dp_2, dp_3, ng_b, ng_d, mz_m, ms_m, ov_2, nset_d, nset_b, uI_1, uI_2, uR_1, uR_21, uR_22, va_rf, Bool.false_eq_true, ae_Ki, ae_Kb, ae_Kj, ae_Ka, ae_Si, ae_Sb, ae_Sj, ae_Sn, List.getElem?_cons_succ, List.getElem?_cons_zero, ↓reduceIte, if_true, if_false, nI_ofNat, true_or, or_true, false_or, or_false, true_and, and_true, false_and, and_false, or_self, and_self, not_true_eq_false, not_false_eq_true, eq_self, List.length_cons, List.length_nil, Nat.reduceAdd, Nat.reduceLT, Nat.reduceSub, List.set_cons_succ, List.set_cons_zero, Option.toList, List.nil_append, List.cons_append, cI_ltT, cI_ltF, cI_leT, cI_leF, cI_eqT, cI_eqF, cI_cl, cN_leT, cN_leF, cN_ltT, cN_ltF, cN_eqT, cN_eqF, cI_add, cI_sub, cI_m1a, cI_m1b, cI_m1c, cI_m1d, cI_m1e, cI_m1f, o1, oz, q1, q2]
theorem m_X10_equationsOnTape (hf : fac G x) (hs : sym G (x + 1) ns ar fn) (hA : arl A ns ar) (ht : tpk G x tp) : ae_wm (d + 2) mX10_equationsOnTape [.ref x] G Q = Q (some (.int (rdv (prb A ns tp)))) G := by
  have t3 : tp.length ≤ 120 := by obtain ⟨g, t1, t2, t3, t4⟩ := ht; exact t3
  have g := m_X10_eq_loop (d := d) (Q := Q) hf hs hA ht 121 0 0 (by omega) (by omega) (by omega)
  have e : (match prl A ns tp 121 0 0 with
    | .inl v => Q (some (.int v)) G
    | .inr t2 => if t2 % 2 = 1 then Q (some (.int (-12))) G else Q (some (.int (nI (t2 / 2)))) G) = Q (some (.int (rdv (prb A ns tp)))) G := by
    unfold prb
    cases prl A ns tp 121 0 0 with
    | inl v => rfl
    | inr t =>
      dsimp only
      by_cases c : t % 2 = 1
      · rw [if_pos c, if_pos c]; rfl
      · rw [if_neg c, if_neg c]; rfl
  rw [e] at g
  simp (disch := first | exact ae_isR_ref _ | exact ae_isR_null | exact ae_isR_rf _ | exact ae_cat_ref _ | exact ae_cat_int _ | exact ae_cat_null | exact ae_cat_rf _ | exact ae_nz0 | exact ae_nz1 | exact ae_fz0 | exact ae_fz1 | exact cI_na (by omega) | exact cI_ix (by omega) | exact cI_nn (by omega) | exact cI_nz (by omega) | exact cI_cp (by omega) | assumption | omega) only [s_X10_equationsOnTape_0, s_X10_equationsOnTape_1, s_X10_equationsOnTape_2, s_X10_equationsOnTape_3, e_X10_equationsOnTape, g]
end TAP
