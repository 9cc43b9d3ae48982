/-! NarrowSolver$TreeMaker.make -/
def mkl (x t f0 : Nat) (S0 : Int64) (op : Value) (i : Nat) (l7 : Option Value) : List (Option Value) := [some (.ref (x + 11)), some (.ref t), some (.int (nI f0)), some (.long S0), none, some op, some (.int (nI i)), l7]
section MAK
variable {d : Nat} {Q : Option Value → ah_H → Prop} {E : Nat → Prop} {G : ah_H} {x t f0 : Nat} {S0 : Int64} {A : Nat → Nat} {ns : Nat} {ar fn : Nat → Int32} {rl : mR}
theorem mk_leaf {q i : Nat} {l7 : Option Value} {pa : Value} (hi : i < 9600) (h2 : nfl G q 2 = some (.int (nI 0))) (h9 : nfl G q 9 = some pa) (hpa : ae_isR pa = true) : ae_wp (d + 9) mX9_make 50 (mkl x t f0 S0 (.ref q) i l7) [] G Q = ae_wp (d + 9) mX9_make 50 (mkl x t f0 S0 pa (i + 1) (some .null)) [] G Q := by
  obtain ⟨fs, hb⟩ := nfl_cls h2
  have g := fun Q => m_X0_isLeaf (d := d + 8) (Q := Q) h2 (by omega)
  rw [if_pos rfl] at g
  have o9 : ∀ K, ae_gw G q 0 9 K = K pa := fun K => gw_nfl h9
  unfold mkl
  refine Eq.trans ?_ s_X9_make_120
  simp (disch := first | exact ae_isR_ref _ | exact ae_isR_null | exact ae_isR_rf _ | exact ae_cat_ref _ | exact ae_cat_int _ | exact ae_cat_null | exact ae_cat_rf _ | exact ae_nz0 | exact ae_nz1 | exact ae_fz0 | exact ae_fz1 | exact cI_na (by omega) | exact cI_ix (by omega) | exact cI_nn (by omega) | exact cI_nz (by omega) | exact cI_cp (by omega) | assumption | omega) only [s_X9_make_50, s_X9_make_52, s_X9_make_55, s_X9_make_58, s_X9_make_60_N, s_X9_make_60, s_X9_make_63, s_X9_make_65 hb, s_X9_make_68, s_X9_make_71, s_X9_make_72, s_X9_make_75, s_X9_make_76, s_X9_make_77, s_X9_make_79, s_X9_make_82, s_X9_make_84, s_X9_make_86_N, s_X9_make_86, s_X9_make_89, s_X9_make_90, s_X9_make_92, s_X9_make_95, s_X9_make_98, s_X9_make_99, s_X9_make_100, s_X9_make_102, s_X9_make_102_N, s_X9_make_105, s_X9_make_107, s_X9_make_110, s_X9_make_113, s_X9_make_115, s_X9_make_117, g, o9, og_0, og_1, og_2, og_3, og_4, og_5, og_6, og_7, og_8, og_9, og_10, og_11, og_12, op_6, op_8, op_9, op_10, op_11, op_12, dg_0, dg_1, dg_2, dg_3, dp_1, dp_2, dp_3, ng_b, ng_d, mz_m, ms_m, ov_2, nset_d, nset_b, uI_1, uI_2, uR_1, uR_21, uR_22, va_rf, Bool.false_eq_true, ae_Ki, ae_Kb, ae_Kj, ae_Ka, ae_Si, ae_Sb, ae_Sj, ae_Sn, List.getElem?_cons_succ, List.getElem?_cons_zero, ↓reduceIte, if_true, if_false, nI_ofNat, true_or, or_true, false_or, or_false, true_and, and_true, false_and, and_false, or_self, and_self, not_true_eq_false, not_false_eq_true, eq_self, List.length_cons, List.length_nil, Nat.reduceAdd, Nat.reduceLT, Nat.reduceSub, List.set_cons_succ, List.set_cons_zero, Option.toList, List.nil_append, List.cons_append, cI_ltT, cI_ltF, cI_leT, cI_leF, cI_eqT, cI_eqF, cI_cl, cN_leT, cN_leF, cN_ltT, cN_ltF, cN_eqT, cN_eqF, cI_add, cI_sub, cI_m1a, cI_m1b, cI_m1c, cI_m1d, cI_m1e, cI_m1f]
theorem mk_none {q i v : Nat} {l7 : Option Value} {pa : Value} {G2 : ah_H} (hi : i < 9600) (h2 : nfl G q 2 = some (.int (nI v))) (hv : 0 < v ∧ v < 2147483648) (ht : tmk G x) (hg : ∀ Q, ae_wm (d + 8) mX9_growChild [.ref (x + 11), .ref t, .ref q] G Q = Q (some .null) G2) (h9 : nfl G2 q 9 = some pa) (hpa : ae_isR pa = true) : ae_wp (d + 9) mX9_make 50 (mkl x t f0 S0 (.ref q) i l7) [] G Q = ae_wp (d + 9) mX9_make 50 (mkl x t f0 S0 pa (i + 1) (some .null)) [] G2 Q := by
  obtain ⟨fs, hb⟩ := nfl_cls h2
  have g := fun Q => m_X0_isLeaf (d := d + 8) (Q := Q) h2 hv.2
  rw [if_neg (by omega)] at g
  have o9 : ∀ K, ae_gw G2 q 0 9 K = K pa := fun K => gw_nfl h9
  unfold mkl
  refine Eq.trans ?_ s_X9_make_120
  simp (disch := first | exact ae_isR_ref _ | exact ae_isR_null | exact ae_isR_rf _ | exact ae_cat_ref _ | exact ae_cat_int _ | exact ae_cat_null | exact ae_cat_rf _ | exact ae_nz0 | exact ae_nz1 | exact ae_fz0 | exact ae_fz1 | exact cI_na (by omega) | exact cI_ix (by omega) | exact cI_nn (by omega) | exact cI_nz (by omega) | exact cI_cp (by omega) | assumption | omega) only [s_X9_make_50, s_X9_make_52, s_X9_make_55, s_X9_make_58, s_X9_make_60_N, s_X9_make_60, s_X9_make_63, s_X9_make_65 hb, s_X9_make_68, s_X9_make_71, s_X9_make_72, s_X9_make_75, s_X9_make_76, s_X9_make_77, s_X9_make_79 ht, s_X9_make_82, s_X9_make_84, s_X9_make_86_N, s_X9_make_86, s_X9_make_89, s_X9_make_90, s_X9_make_92, s_X9_make_95, s_X9_make_98, s_X9_make_99, s_X9_make_100, s_X9_make_102, s_X9_make_102_N, s_X9_make_105, s_X9_make_107, s_X9_make_110, s_X9_make_113, s_X9_make_115, s_X9_make_117, g, hg, o9, og_0, og_1, og_2, og_3, og_4, og_5, og_6, og_7, og_8, og_9, og_10, og_11, og_12, op_6, op_8, op_9, op_10, op_11, op_12, dg_0, dg_1, dg_2, dg_3, dp_1, dp_2, dp_3, ng_b, ng_d, mz_m, ms_m, ov_2, nset_d, nset_b, uI_1, uI_2, uR_1, uR_21, uR_22, va_rf, Bool.false_eq_true, ae_Ki, ae_Kb, ae_Kj, ae_Ka, ae_Si, ae_Sb, ae_Sj, ae_Sn, List.getElem?_cons_succ, List.getElem?_cons_zero, ↓reduceIte, if_true, if_false, nI_ofNat, true_or, or_true, false_or, or_false, true_and, and_true, false_and, and_false, or_self, and_self, not_true_eq_false, not_false_eq_true, eq_self, List.length_cons, List.length_nil, Nat.reduceAdd, Nat.reduceLT, Nat.reduceSub, List.set_cons_succ, List.set_cons_zero, Option.toList, List.nil_append, List.cons_append, cI_ltT, cI_ltF, cI_leT, cI_leF, cI_eqT, cI_eqF, cI_cl, cN_leT, cN_leF, cN_ltT, cN_ltF, cN_eqT, cN_eqF, cI_add, cI_sub, cI_m1a, cI_m1b, cI_m1c, cI_m1d, cI_m1e, cI_m1f]
theorem mk_child {q i v a : Nat} {l7 : Option Value} {G2 G3 : ah_H} (hi : i < 9600) (h2 : nfl G q 2 = some (.int (nI v))) (hv : 0 < v ∧ v < 2147483648) (ht : tmk G x) (ht2 : tmk G2 x) (hg : ∀ Q, ae_wm (d + 8) mX9_growChild [.ref (x + 11), .ref t, .ref q] G Q = Q (some (.ref a)) G2) (hs : ∀ Q, ae_wm (d + 8) mX9_settle [.ref (x + 11), .ref a] G2 Q = Q (some (.int (nI 1))) G3) : ae_wp (d + 9) mX9_make 50 (mkl x t f0 S0 (.ref q) i l7) [] G Q = ae_wp (d + 9) mX9_make 50 (mkl x t f0 S0 (.ref a) (i + 1) (some (.ref a))) [] G3 Q := by
  obtain ⟨fs, hb⟩ := nfl_cls h2
  have g := fun Q => m_X0_isLeaf (d := d + 8) (Q := Q) h2 hv.2
  rw [if_neg (by omega)] at g
  unfold mkl
  refine Eq.trans ?_ s_X9_make_120
  simp (disch := first | exact ae_isR_ref _ | exact ae_isR_null | exact ae_isR_rf _ | exact ae_cat_ref _ | exact ae_cat_int _ | exact ae_cat_null | exact ae_cat_rf _ | exact ae_nz0 | exact ae_nz1 | exact ae_fz0 | exact ae_fz1 | exact cI_na (by omega) | exact cI_ix (by omega) | exact cI_nn (by omega) | exact cI_nz (by omega) | exact cI_cp (by omega) | assumption | omega) only [s_X9_make_50, s_X9_make_52, s_X9_make_55, s_X9_make_58, s_X9_make_60_N, s_X9_make_60, s_X9_make_63, s_X9_make_65 hb, s_X9_make_68, s_X9_make_71, s_X9_make_72, s_X9_make_75, s_X9_make_76, s_X9_make_77, s_X9_make_79 ht, s_X9_make_82, s_X9_make_84, s_X9_make_86_N, s_X9_make_86, s_X9_make_89, s_X9_make_90, s_X9_make_92 ht2, s_X9_make_95, s_X9_make_98, s_X9_make_99, s_X9_make_100, s_X9_make_102, s_X9_make_102_N, s_X9_make_105, s_X9_make_107, s_X9_make_110, s_X9_make_113, s_X9_make_115, s_X9_make_117, g, hg, hs, og_0, og_1, og_2, og_3, og_4, og_5, og_6, og_7, og_8, og_9, og_10, og_11, og_12, op_6, op_8, op_9, op_10, op_11, op_12, dg_0, dg_1, dg_2, dg_3, dp_1, dp_2, dp_3, ng_b, ng_d, mz_m, ms_m, ov_2, nset_d, nset_b, uI_1, uI_2, uR_1, uR_21, uR_22, va_rf, Bool.false_eq_true, ae_Ki, ae_Kb, ae_Kj, ae_Ka, ae_Si, ae_Sb, ae_Sj, ae_Sn, List.getElem?_cons_succ, List.getElem?_cons_zero, ↓reduceIte, if_true, if_false, nI_ofNat, true_or, or_true, false_or, or_false, true_and, and_true, false_and, and_false, or_self, and_self, not_true_eq_false, not_false_eq_true, eq_self, List.length_cons, List.length_nil, Nat.reduceAdd, Nat.reduceLT, Nat.reduceSub, List.set_cons_succ, List.set_cons_zero, Option.toList, List.nil_append, List.cons_append, cI_ltT, cI_ltF, cI_leT, cI_leF, cI_eqT, cI_eqF, cI_cl, cN_leT, cN_leF, cN_ltT, cN_ltF, cN_eqT, cN_eqF, cI_add, cI_sub, cI_m1a, cI_m1b, cI_m1c, cI_m1d, cI_m1e, cI_m1f]
theorem mk_bad {q i v a : Nat} {l7 : Option Value} {G2 G3 : ah_H} (hi : i < 9600) (h2 : nfl G q 2 = some (.int (nI v))) (hv : 0 < v ∧ v < 2147483648) (ht : tmk G x) (ht2 : tmk G2 x) (hg : ∀ Q, ae_wm (d + 8) mX9_growChild [.ref (x + 11), .ref t, .ref q] G Q = Q (some (.ref a)) G2) (hs : ∀ Q, ae_wm (d + 8) mX9_settle [.ref (x + 11), .ref a] G2 Q = Q (some (.int (nI 0))) G3) : ae_wp (d + 9) mX9_make 50 (mkl x t f0 S0 (.ref q) i l7) [] G Q = Q (some (.int (nI 0))) G3 := by
  obtain ⟨fs, hb⟩ := nfl_cls h2
  have g := fun Q => m_X0_isLeaf (d := d + 8) (Q := Q) h2 hv.2
  rw [if_neg (by omega)] at g
  unfold mkl
  simp (disch := first | exact ae_isR_ref _ | exact ae_isR_null | exact ae_isR_rf _ | exact ae_cat_ref _ | exact ae_cat_int _ | exact ae_cat_null | exact ae_cat_rf _ | exact ae_nz0 | exact ae_nz1 | exact ae_fz0 | exact ae_fz1 | exact cI_na (by omega) | exact cI_ix (by omega) | exact cI_nn (by omega) | exact cI_nz (by omega) | exact cI_cp (by omega) | assumption | omega) only [s_X9_make_50, s_X9_make_52, s_X9_make_55, s_X9_make_58, s_X9_make_60_N, s_X9_make_60, s_X9_make_63, s_X9_make_65 hb, s_X9_make_68, s_X9_make_71, s_X9_make_72, s_X9_make_75, s_X9_make_76, s_X9_make_77, s_X9_make_79 ht, s_X9_make_82, s_X9_make_84, s_X9_make_86_N, s_X9_make_86, s_X9_make_89, s_X9_make_90, s_X9_make_92 ht2, s_X9_make_95, s_X9_make_98, s_X9_make_99, g, hg, hs, og_0, og_1, og_2, og_3, og_4, og_5, og_6, og_7, og_8, og_9, og_10, og_11, og_12, op_6, op_8, op_9, op_10, op_11, op_12, dg_0, dg_1, dg_2, dg_3, dp_1, dp_2, dp_3, ng_b, ng_d, mz_m, ms_m, ov_2, nset_d, nset_b, uI_1, uI_2, uR_1, uR_21, uR_22, va_rf, Bool.false_eq_true, ae_Ki, ae_Kb, ae_Kj, ae_Ka, ae_Si, ae_Sb, ae_Sj, ae_Sn, List.getElem?_cons_succ, List.getElem?_cons_zero, ↓reduceIte, if_true, if_false, nI_ofNat, true_or, or_true, false_or, or_false, true_and, and_true, false_and, and_false, or_self, and_self, not_true_eq_false, not_false_eq_true, eq_self, List.length_cons, List.length_nil, Nat.reduceAdd, Nat.reduceLT, Nat.reduceSub, List.set_cons_succ, List.set_cons_zero, Option.toList, List.nil_append, List.cons_append, cI_ltT, cI_ltF, cI_leT, cI_leF, cI_eqT, cI_eqF, cI_cl, cN_leT, cN_leF, cN_ltT, cN_ltF, cN_eqT, cN_eqF, cI_add, cI_sub, cI_m1a, cI_m1b, cI_m1c, cI_m1d, cI_m1e, cI_m1f]
/-- cells of nodes with numbers below n are as they were -/
def frN (G G2 : ah_H) (ad ad2 : Nat → Option Nat) (n : Nat) : Prop := ∀ j, j < n → ad2 j = ad j ∧ ∀ a, ad j = some a → G2.1 a = G.1 a
theorem frN_trans {G G2 G3 : ah_H} {ad ad2 ad3 : Nat → Option Nat} {n : Nat} (h1 : frN G G2 ad ad2 n) (h2 : frN G2 G3 ad2 ad3 n) : frN G G3 ad ad3 n := fun j hj => by
  obtain ⟨a1, a2⟩ := h1 j hj
  obtain ⟨b1, b2⟩ := h2 j hj
  exact ⟨b1.trans a1, fun a ha => (b2 a (a1.trans ha)).trans (a2 a ha)⟩
theorem frN_mono {G G2 : ah_H} {ad ad2 : Nat → Option Nat} {n m : Nat} (h : frN G G2 ad ad2 n) (hm : m ≤ n) : frN G G2 ad ad2 m := fun j hj => h j (by omega)
/-- what holds all along: the cells of E, the array of the maker -/
def fin (E : Nat → Prop) (x : Nat) (G G2 : ah_H) : Prop := (∀ a, E a → G2.1 a = G.1 a) ∧ (∃ f1, G2.1 (x + 14) = some (.inl (1, 120, .inl f1))) ∧ x + 14 < G2.2.1
theorem fin_trans {G G2 G3 : ah_H} (h1 : fin E x G G2) (h2 : fin E x G2 G3) : fin E x G G3 := ⟨fun a ha => (h2.1 a ha).trans (h1.1 a ha), h2.2⟩
/-- it has no tree -/
def mkF (d x t f0 : Nat) (S0 : Int64) (E : Nat → Prop) (q i : Nat) (l7 : Option Value) (G : ah_H) (nn cap : Nat) : Prop := ∃ G2 e2 n2 cap2 ad2 sz2 l, (∀ Q, ae_wp (d + 9) mX9_make 50 (mkl x t f0 S0 (.ref q) i l7) [] G Q = Q (some (.int (nI 0))) G2) ∧ fin E x G G2 ∧ pat G2 x l ∧ trb E G2 t e2 n2 cap2 ad2 sz2 ∧ led G nn cap G2 n2 cap2
def sbP (d x t f0 : Nat) (S0 : Int64) (E : Nat → Prop) (A : Nat → Nat) (ns : Nat) (ar fn : Nat → Int32) (rl : mR) (f : Nat) : Prop := ∀ (p : List Nat) (S : Int64) (G : ah_H) (e nn cap : Nat) (ad : Nat → Option Nat) (n q i : Nat) (cn : Int32) (pa : Value) (par : Int32) (ord : Nat) (l7 : Option Value), wfp ns A rl p S → 121 ≤ p.length - hol p + f → mkr E G x ns A ar fn rl → (∃ f1, G.1 (x + 14) = some (.inl (1, 120, .inl f1))) → x + 14 < G.2.1 → pat G x (pcm p) → trb E G t e nn cap ad (n + 1) → ad n = some q → G.1 q = some (.inr (0, nodS A rl p S n cn pa)) → okS A rl p S = true → ae_isR pa = true → 2 * ph A rl p S + i ≤ 9601 → n + ph A rl p S ≤ 4801 → match lay A rl ns f p S n par ord with
  | none => mkF d x t f0 S0 E q i l7 G nn cap
  | some L => ∃ G2 e2 n2 cap2 ad2, (∀ Q, ae_wp (d + 9) mX9_make 50 (mkl x t f0 S0 (.ref q) i l7) [] G Q = ae_wp (d + 9) mX9_make 50 (mkl x t f0 S0 pa (i + (2 * L.length - 1)) (some .null)) [] G2 Q) ∧ fin E x G G2 ∧ pat G2 x (pcm p) ∧ trb E G2 t e2 n2 cap2 ad2 (n + L.length) ∧ tnn G2 ad2 A rl ns f p S n par ord L ∧ nfl G2 q 6 = some .null ∧ nfl G2 q 1 = some (.int cn) ∧ frN G G2 ad ad2 n ∧ ad2 n = some q ∧ led G nn cap G2 n2 cap2
theorem lay_nok {f : Nat} {p : List Nat} {S : Int64} {n : Nat} {par : Int32} {ord : Nat} (h : okS A rl p S = false) : lay A rl ns f p S n par ord = none := by
  cases f with
  | zero => rfl
  | succ f =>
    simp only [lay]
    unfold okS at h
    cases e : bro A rl p S with
    | none =>
      rw [e] at h
      have h1 : isl A rl p S = false := by
        unfold isl
        rw [e]
        simp only [Option.isNone_none, Bool.and_true]
        exact h
      rw [if_neg (by rw [h1]; exact Bool.false_ne_true)]
    | some k =>
      rw [e] at h
      have h1 : isl A rl p S = false := by unfold isl; rw [e]; simp
      rw [if_neg (by rw [h1]; exact Bool.false_ne_true)]
      dsimp only
      rw [if_pos (by simpa using h)]
theorem okS_none {p : List Nat} {S : Int64} (h : okS A rl p S = true) (e : bro A rl p S = none) : isl A rl p S = true := by
  unfold okS at h
  rw [e] at h
  unfold isl
  rw [e]
  simp only [Option.isNone_none, Bool.and_true]
  exact h
theorem isl_some {p : List Nat} {S : Int64} {k : Nat} (e : bro A rl p S = some k) : isl A rl p S = false := by unfold isl; rw [e]; simp
theorem nodS_none {p : List Nat} {S : Int64} {n : Nat} {cn : Int32} {pa : Value} (e : bro A rl p S = none) : nodS A rl p S n cn pa = nfs (nI n) cn (nI 0) (nI (fsr S)) (nI 0) .null .null S (nI 0) pa .null := by unfold nodS; rw [e]
theorem nodS_some {p : List Nat} {S : Int64} {n k : Nat} {cn : Int32} {pa : Value} (e : bro A rl p S = some k) (h : (pds A p (jof p k)).length ≤ 8) : nodS A rl p S n cn pa = nfs (nI n) cn (nI (plv (pds A p (jof p k)))) (-1) (nI 0) .null .null S (nI (jof p k)) pa .null := by
  unfold nodS
  rw [e]
  dsimp only
  rw [if_pos h]
theorem nodS_len {p : List Nat} {S : Int64} {n : Nat} {cn : Int32} {pa : Value} : (nodS A rl p S n cn pa).length = 11 := by
  unfold nodS
  cases bro A rl p S <;> rfl
/-- growChild as a whole: a child is made -/
theorem m_X9_gcs {p : List Nat} {S : Int64} {e nn cap : Nat} {ad : Nat → Option Nat} {sz : Nat} (hk : mkr E G x ns A ar fn rl) (hw : wfp ns A rl p S) {k b q n c : Nat} (hbr : bro A rl p S = some k) (hb1 : b < 1000) (hb : trb E G t e nn cap ad sz) (hs : sz ≤ 9600) {f1 : Nat → Int32} (h14 : G.1 (x + 14) = some (.inl (1, 120, .inl f1))) (hx : x + 14 < G.2.1) {cn pl lr : Int32} {ch : Nat} {fc nx pa lc : Value} (hq : nodA G q (nI n) cn pl lr (nI ch) fc nx S (nI (jof p k)) pa lc) (hc : ch < 1000) (hn : n < sz) (hqn : ad n = some q) (hl : lch G x A rl ns ad p S k n sz b lc) (hnx : nxc A rl ns p k S b = some c) : ∃ G2 e2 n2 cap2 ad2 a, (∀ Q, ae_wm (d + 8) mX9_growChild [.ref (x + 11), .ref t, .ref q] G Q = Q (some (.ref a)) G2) ∧ trb E G2 t e2 n2 cap2 ad2 (sz + 1) ∧ ad2 sz = some a ∧ (∀ i, i < sz → ad2 i = ad i) ∧ nodA G2 a (nI sz) (nI c) (nI 0) (-1) (nI 0) .null .null (wia A rl p k S c) (nI 0) (.ref q) .null ∧ nodA G2 q (nI n) cn pl lr (nI (ch + 1)) (apf lc fc a) nx S (nI (jof p k)) pa (.ref a) ∧ (∀ la, lc = .ref la → nfl G2 la 6 = some (.ref a) ∧ ∀ k, k ≠ 6 → nfl G2 la k = nfl G la k) ∧ (∀ i b, i < sz → i ≠ n → ad i = some b → lc ≠ .ref b → G2.1 b = G.1 b) ∧ (∀ b, E b → G2.1 b = G.1 b) ∧ pat G2 x (pcm (kid A rl p k S c).1) ∧ G2.1 (x + 14) = some (.inl (1, 120, .inl f1)) ∧ x + 14 < G2.2.1 ∧ led G nn cap G2 n2 cap2 := by
  obtain ⟨G1, g1, g2, g3, l, g4⟩ := m_X9_gc0 (d := d) (t := t) hk hw hbr hq hl
  have gn : ∀ b fs, G.1 b = some (.inr (0, fs)) → G1.1 b = G.1 b := fun b fs hb => by
    obtain ⟨g, ⟨p1, p2⟩, p3⟩ := g4
    have p2 : G.1 (x + 13) = _ := p2
    exact g3.1 b (fun z => by rw [z, p1] at hb; cases hb) (fun z => by rw [z, p2] at hb; cases hb)
  have hq' : G.1 q = _ := hq
  have hb6 := hb.2.2.2.1
  have hcell : ∀ i b, i < sz → ad i = some b → G1.1 b = G.1 b := fun i b hi hib => by
    obtain ⟨a3, fs, w1, w2, w3, w4, w5⟩ := hb6 i (by have := hb.2.2.1; omega)
    rw [hib] at w1
    cases w1
    exact gn b fs w2
  have hl2 : lc = .null ∨ ∃ la m, lc = .ref la ∧ m ≠ n ∧ m < sz ∧ ad m = some la := by
    rcases hl with ⟨z, _⟩ | ⟨la, m, c0, z1, z2, z3, z4, _⟩
    · exact Or.inl z
    · exact Or.inr ⟨la, m, z1, z2, z3, z4⟩
  obtain ⟨G2, e2, n2, cap2, ad2, a, q1, q2, q3, q4, q5, q6, q7, q8, q9, q10, q11, q12, q13⟩ := m_X9_gc25_some (d := d) (frP_mkr g3 hk) g2 hw hbr hb1 (trb_frP hb g4 g3) hs (f0 := f1) (by rw [g3.1 _ (by omega) (by omega)]; exact h14) (by rw [g3.2]; exact hx) ((gn q _ hq').trans hq) hc hn hqn hl2 hnx
  refine ⟨G2, e2, n2, cap2, ad2, a, fun Q => (g1 Q).trans (q1 Q), q2, q3, q4, q5, q6, fun la hla => ?_, fun i b hi hin hib hbl => (q8 i b hi hin hib hbl).trans (hcell i b hi hib), fun b hEb => ?_, q10, q11, q12, ?_⟩
  · obtain ⟨s1, s2⟩ := q7 la hla
    refine ⟨s1, fun k hk => ?_⟩
    rcases hl2 with z | ⟨la2, m, z1, z2, z3, z4⟩
    · rw [z] at hla; cases hla
    · rw [z1] at hla
      cases hla
      rw [s2 k hk, nfl_cg (hcell m la z3 z4)]
  · rw [q9 b hEb, g3.1 b (fun z => hk.1.2.2.2.2.2.1 (z ▸ hEb)) (fun z => hk.1.2.2.2.2.2.2.1 (z ▸ hEb))]
  · obtain ⟨l1, l2, l3, l4, l5⟩ := q13
    rw [g3.2] at l1 l2 l4 l5
    exact ⟨l1, l2, l3, l4, l5⟩
theorem m_X9_gcn {p : List Nat} {S : Int64} {ad : Nat → Option Nat} {sz : Nat} (hk : mkr E G x ns A ar fn rl) (hw : wfp ns A rl p S) {k b q n : Nat} (hbr : bro A rl p S = some k) (hb1 : b < 1000) {cn pl lr ch : Int32} {fc nx pa lc : Value} (hq : nodA G q (nI n) cn pl lr ch fc nx S (nI (jof p k)) pa lc) (hl : lch G x A rl ns ad p S k n sz b lc) (hnx : nxc A rl ns p k S b = none) : ∃ G2, (∀ Q, ae_wm (d + 8) mX9_growChild [.ref (x + 11), .ref t, .ref q] G Q = Q (some .null) G2) ∧ pat G2 x (pcm p) ∧ frP G G2 x ∧ ∃ l, pat G x l := by
  obtain ⟨G1, g1, g2, g3, l, g4⟩ := m_X9_gc0 (d := d) (t := t) hk hw hbr hq hl
  have hq' : G.1 q = _ := hq
  have hq1 : nodA G1 q (nI n) cn pl lr ch fc nx S (nI (jof p k)) pa lc := by
    obtain ⟨g, ⟨p1, p2⟩, p3⟩ := g4
    have p2 : G.1 (x + 13) = _ := p2
    exact (g3.1 q (fun z => by rw [z, p1] at hq'; cases hq') (fun z => by rw [z, p2] at hq'; cases hq')).trans hq
  have hnf := nod_nfl hq1
  exact ⟨G1, fun Q => (g1 Q).trans (m_X9_gc25_none (d := d) (frP_mkr g3 hk) g2 hw hbr hb1 hnf.2.2.2.2.2.2.2.1 hnf.2.2.2.2.2.2.2.2.1 hnx), g2, g3, l, g4⟩
end MAK
