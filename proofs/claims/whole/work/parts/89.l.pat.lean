/-! NarrowSolver$TreeMaker (x + 11): its pattern (x + 12, x + 13); unfold, fold, standsIn -/
def pcm (p : List Nat) : List Nat := p.map (fun z => if z = 99 then 100 else z)
theorem pcm_len (p : List Nat) : (pcm p).length = p.length := by simp [pcm]
theorem pcm_at {p : List Nat} {i : Nat} (h : i < p.length) : (pcm p).getD i 0 = if p.getD i 0 = 99 then 100 else p.getD i 0 := by
  simp [pcm, List.getD_eq_getElem?_getD, h]
def pat (G : ah_H) (x : Nat) (l : List Nat) : Prop := ∃ g, nmb G (x + 12) 120 g l.length ∧ rowl l g ∧ l.length ≤ 120
def tmk (G : ah_H) (x : Nat) : Prop := G.1 (x + 11) = some (.inr (9, [.ref (x + 1), .ref (x + 7), .ref (x + 12), .ref (x + 14)]))
/-- G2 is G but for the pattern -/
def frP (G G2 : ah_H) (x : Nat) : Prop := (∀ a, a ≠ x + 12 → a ≠ x + 13 → G2.1 a = G.1 a) ∧ G2.2 = G.2
theorem frP_refl (G : ah_H) (x : Nat) : frP G G x := ⟨fun _ _ _ => rfl, rfl⟩
theorem frP_trans {G G2 G3 : ah_H} {x : Nat} (h1 : frP G G2 x) (h2 : frP G2 G3 x) : frP G G3 x := ⟨fun a h3 h4 => (h2.1 a h3 h4).trans (h1.1 a h3 h4), h2.2.trans h1.2⟩
theorem frP_nset (G : ah_H) (x : Nat) (f : Nat → Int32) (n : Nat) : frP G (nset G (x + 12) 120 f n) x := ⟨fun a h1 h2 => nset_ne ⟨h1, h2⟩, rfl⟩
theorem frP_sym {G G2 : ah_H} {x ns : Nat} {ar fn : Nat → Int32} (h : frP G G2 x) (hs : sym G (x + 1) ns ar fn) : sym G2 (x + 1) ns ar fn := ⟨by rw [h.1 _ (by omega) (by omega)]; exact hs.1, by rw [h.1 _ (by omega) (by omega)]; exact hs.2.1, by rw [h.1 _ (by omega) (by omega)]; exact hs.2.2⟩
theorem frP_tmk {G G2 : ah_H} {x : Nat} (h : frP G G2 x) (ht : tmk G x) : tmk G2 x := by unfold tmk; rw [h.1 _ (by omega) (by omega)]; exact ht
theorem linsert_at (a b : List Nat) (v : Nat) : linsert (a ++ b) a.length v = a ++ v :: b := by
  simp [linsert]
theorem lremove_at (a b : List Nat) (v : Nat) : lremove (a ++ v :: b) a.length = a ++ b := by
  unfold lremove
  rw [List.take_left, ← List.drop_drop, List.drop_left]
  rfl
section PAT
variable {d : Nat} {Q : Option Value → ah_H → Prop} {x : Nat} {A : Nat → Nat} {ns : Nat} {ar fn : Nat → Int32}
theorem m_X9_uf_loop (hA : arl A ns ar) {j c : Nat} (hc : c < 256) {a b : List Nat} (hj : a.length = j) (hb : a.length + 1 + A c + b.length ≤ 120) : ∀ (m k : Nat) (G : ah_H), k + m = A c → tmk G x → sym G (x + 1) ns ar fn → pat G x (a ++ c :: (List.replicate k 100 ++ b)) → ∃ G2, (∀ Q, ae_wp (d + 1) mX9_unfold 11 [some (.ref (x + 11)), some (.int (nI j)), some (.int (nI c)), some (.int (nI k))] [] G Q = Q none G2) ∧ pat G2 x (a ++ c :: (List.replicate (A c) 100 ++ b)) ∧ frP G G2 x := by
  have hA3 := arl_le hA c
  intro m
  induction m with
  | zero =>
    intro k G hk ht hs hp
    have e : k = A c := by omega
    subst e
    have o0 : ∀ K, ae_gw G (x + 11) 9 0 K = K (.ref (x + 1)) := fun K => by unfold ae_gw; rw [ht]; rfl
    have gA := fun Q => m_X7_argumentsOf (d := d) (Q := Q) (v := c) hs hA (by omega)
    refine ⟨G, fun Q => ?_, hp, frP_refl _ _⟩
    simp (disch := first | exact ae_isR_ref _ | exact ae_isR_null | exact ae_isR_rf _ | exact ae_cat_ref _ | exact ae_cat_int _ | exact ae_cat_null | exact ae_cat_rf _ | exact ae_nz0 | exact ae_nz1 | exact ae_fz0 | exact ae_fz1 | exact cI_na (by omega) | exact cI_ix (by omega) | exact cI_nn (by omega) | exact cI_nz (by omega) | exact cI_cp (by omega) | assumption | omega) only [s_X9_unfold_11, s_X9_unfold_12, s_X9_unfold_13, s_X9_unfold_16, s_X9_unfold_17 hs.1, s_X9_unfold_20, s_X9_unfold_41, og_0, og_1, og_2, og_3, og_4, og_5, og_6, og_7, og_8, og_9, og_10, og_11, og_12, op_6, op_8, op_9, op_10, op_11, op_12, dg_0, dg_1, dg_2, dg_3, dp_1, dp_2, dp_3, ng_b, ng_d, mz_m, ms_m, ov_2, nset_d, nset_b, uI_1, uI_2, uR_1, uR_21, uR_22, va_rf, Bool.false_eq_true, ae_Ki, ae_Kb, ae_Kj, ae_Ka, ae_Si, ae_Sb, ae_Sj, ae_Sn, List.getElem?_cons_succ, List.getElem?_cons_zero, ↓reduceIte, if_true, if_false, nI_ofNat, true_or, or_true, false_or, or_false, true_and, and_true, false_and, and_false, or_self, and_self, not_true_eq_false, not_false_eq_true, eq_self, List.length_cons, List.length_nil, Nat.reduceAdd, Nat.reduceLT, Nat.reduceSub, List.set_cons_succ, List.set_cons_zero, Option.toList, List.nil_append, List.cons_append, cI_ltT, cI_ltF, cI_leT, cI_leF, cI_eqT, cI_eqF, cI_cl, cN_leT, cN_leF, cN_ltT, cN_ltF, cN_eqT, cN_eqF, cI_add, cI_sub, cI_m1a, cI_m1b, cI_m1c, cI_m1d, cI_m1e, cI_m1f, o0, gA]
  | succ m ih =>
    intro k G hk ht hs hp
    obtain ⟨g, p1, p2, p3⟩ := hp
    have o0 : ∀ K, ae_gw G (x + 11) 9 0 K = K (.ref (x + 1)) := fun K => by unfold ae_gw; rw [ht]; rfl
    have o2 : ∀ K, ae_gw G (x + 11) 9 2 K = K (.ref (x + 12)) := fun K => by unfold ae_gw; rw [ht]; rfl
    have gA := fun Q => m_X7_argumentsOf (d := d) (Q := Q) (v := c) hs hA (by omega)
    have hlen : (a ++ c :: (List.replicate k 100 ++ b)).length = a.length + 1 + k + b.length := by
      simp only [List.length_append, List.length_cons, List.length_replicate]; omega
    obtain ⟨f2, i1, i2⟩ := m_X1_insert (d := d) (w := 100) (i := j + 1) p1 p2 (by omega) (by omega) (by omega)
    have e2 : linsert (a ++ c :: (List.replicate k 100 ++ b)) (j + 1) 100 = a ++ c :: (List.replicate (k + 1) 100 ++ b) := by
      have e3 : a ++ c :: (List.replicate k 100 ++ b) = (a ++ [c]) ++ (List.replicate k 100 ++ b) := by simp
      have e4 : (a ++ [c]).length = j + 1 := by simp [hj]
      rw [e3, ← e4, linsert_at]
      simp [List.replicate_succ]
    rw [e2] at i2
    have hf := frP_nset G x f2 ((a ++ c :: (List.replicate k 100 ++ b)).length + 1)
    obtain ⟨G2, k1, k2, k3⟩ := ih (k + 1) (nset G (x + 12) 120 f2 ((a ++ c :: (List.replicate k 100 ++ b)).length + 1)) (by omega) (frP_tmk hf ht) (frP_sym hf hs) ⟨f2, by
      have e5 : (a ++ c :: (List.replicate (k + 1) 100 ++ b)).length = (a ++ c :: (List.replicate k 100 ++ b)).length + 1 := by
        simp only [List.length_append, List.length_cons, List.length_replicate]; omega
      rw [e5]
      exact nset_nmb _ _ _ _ _, i2, by simp only [List.length_append, List.length_cons, List.length_replicate]; omega⟩
    refine ⟨G2, fun Q => ?_, k2, frP_trans hf k3⟩
    refine Eq.trans ?_ (s_X9_unfold_38.trans (k1 Q))
    simp (disch := first | exact ae_isR_ref _ | exact ae_isR_null | exact ae_isR_rf _ | exact ae_cat_ref _ | exact ae_cat_int _ | exact ae_cat_null | exact ae_cat_rf _ | exact ae_nz0 | exact ae_nz1 | exact ae_fz0 | exact ae_fz1 | exact cI_na (by omega) | exact cI_ix (by omega) | exact cI_nn (by omega) | exact cI_nz (by omega) | exact cI_cp (by omega) | assumption | omega) only [s_X9_unfold_11, s_X9_unfold_12, s_X9_unfold_13, s_X9_unfold_16, s_X9_unfold_17 hs.1, s_X9_unfold_20, s_X9_unfold_23, s_X9_unfold_24, s_X9_unfold_27, s_X9_unfold_28, s_X9_unfold_29, s_X9_unfold_30, s_X9_unfold_32 p1.1, s_X9_unfold_35, og_0, og_1, og_2, og_3, og_4, og_5, og_6, og_7, og_8, og_9, og_10, og_11, og_12, op_6, op_8, op_9, op_10, op_11, op_12, dg_0, dg_1, dg_2, dg_3, dp_1, dp_2, dp_3, ng_b, ng_d, mz_m, ms_m, ov_2, nset_d, nset_b, uI_1, uI_2, uR_1, uR_21, uR_22, va_rf, Bool.false_eq_true, ae_Ki, ae_Kb, ae_Kj, ae_Ka, ae_Si, ae_Sb, ae_Sj, ae_Sn, List.getElem?_cons_succ, List.getElem?_cons_zero, ↓reduceIte, if_true, if_false, nI_ofNat, true_or, or_true, false_or, or_false, true_and, and_true, false_and, and_false, or_self, and_self, not_true_eq_false, not_false_eq_true, eq_self, List.length_cons, List.length_nil, Nat.reduceAdd, Nat.reduceLT, Nat.reduceSub, List.set_cons_succ, List.set_cons_zero, Option.toList, List.nil_append, List.cons_append, cI_ltT, cI_ltF, cI_leT, cI_leF, cI_eqT, cI_eqF, cI_cl, cN_leT, cN_leF, cN_ltT, cN_ltF, cN_eqT, cN_eqF, cI_add, cI_sub, cI_m1a, cI_m1b, cI_m1c, cI_m1d, cI_m1e, cI_m1f, o0, o2, gA, i1]
theorem m_X9_unfold (hA : arl A ns ar) {G : ah_H} {c z : Nat} (hc : c < 256) {a b : List Nat} (hb : a.length + 1 + A c + b.length ≤ 120) (ht : tmk G x) (hs : sym G (x + 1) ns ar fn) (hp : pat G x (a ++ z :: b)) : ∃ G2, (∀ Q, ae_wm (d + 1) mX9_unfold [.ref (x + 11), .int (nI a.length), .int (nI c)] G Q = Q none G2) ∧ pat G2 x (a ++ c :: (List.replicate (A c) 100 ++ b)) ∧ frP G G2 x := by
  obtain ⟨g, p1, p2, p3⟩ := hp
  have o2 : ∀ K, ae_gw G (x + 11) 9 2 K = K (.ref (x + 12)) := fun K => by unfold ae_gw; rw [ht]; rfl
  obtain ⟨f2, i1, i2⟩ := m_X1_set (d := d) (w := c) (i := a.length) p1 p2 p3 (by omega) (by simp)
  have e2 : (a ++ z :: b).set a.length c = a ++ c :: b := by simp
  rw [e2] at i2
  have hf := frP_nset G x f2 (a ++ z :: b).length
  have e3 : (a ++ c :: b).length = (a ++ z :: b).length := by simp
  obtain ⟨G2, k1, k2, k3⟩ := m_X9_uf_loop (d := d) hA hc (a := a) (b := b) rfl hb (A c) 0 (nset G (x + 12) 120 f2 (a ++ z :: b).length) (by omega) (frP_tmk hf ht) (frP_sym hf hs) ⟨f2, by
    show nmb _ _ _ _ (a ++ c :: ([] ++ b)).length
    rw [List.nil_append, e3]
    exact nset_nmb _ _ _ _ _, i2, by
    show (a ++ c :: ([] ++ b)).length ≤ 120
    rw [List.nil_append, e3]; exact p3⟩
  refine ⟨G2, fun Q => ?_, k2, frP_trans hf k3⟩
  simp (disch := first | exact ae_isR_ref _ | exact ae_isR_null | exact ae_isR_rf _ | exact ae_cat_ref _ | exact ae_cat_int _ | exact ae_cat_null | exact ae_cat_rf _ | exact ae_nz0 | exact ae_nz1 | exact ae_fz0 | exact ae_fz1 | exact cI_na (by omega) | exact cI_ix (by omega) | exact cI_nn (by omega) | exact cI_nz (by omega) | exact cI_cp (by omega) | assumption | omega) only [s_X9_unfold_0, s_X9_unfold_1, s_X9_unfold_4, s_X9_unfold_5, s_X9_unfold_6 p1.1, s_X9_unfold_9, s_X9_unfold_10, e_X9_unfold, og_0, og_1, og_2, og_3, og_4, og_5, og_6, og_7, og_8, og_9, og_10, og_11, og_12, op_6, op_8, op_9, op_10, op_11, op_12, dg_0, dg_1, dg_2, dg_3, dp_1, dp_2, dp_3, ng_b, ng_d, mz_m, ms_m, ov_2, nset_d, nset_b, uI_1, uI_2, uR_1, uR_21, uR_22, va_rf, Bool.false_eq_true, ae_Ki, ae_Kb, ae_Kj, ae_Ka, ae_Si, ae_Sb, ae_Sj, ae_Sn, List.getElem?_cons_succ, List.getElem?_cons_zero, ↓reduceIte, if_true, if_false, nI_ofNat, true_or, or_true, false_or, or_false, true_and, and_true, false_and, and_false, or_self, and_self, not_true_eq_false, not_false_eq_true, eq_self, List.length_cons, List.length_nil, Nat.reduceAdd, Nat.reduceLT, Nat.reduceSub, List.set_cons_succ, List.set_cons_zero, Option.toList, List.nil_append, List.cons_append, cI_ltT, cI_ltF, cI_leT, cI_leF, cI_eqT, cI_eqF, cI_cl, cN_leT, cN_leF, cN_ltT, cN_ltF, cN_eqT, cN_eqF, cI_add, cI_sub, cI_m1a, cI_m1b, cI_m1c, cI_m1d, cI_m1e, cI_m1f, o2, i1, k1]
theorem m_X9_fo_loop {j n c : Nat} {a b : List Nat} (hj : a.length = j) (hn : n ≤ 3) : ∀ (m k : Nat) (G : ah_H), k + m = n → tmk G x → pat G x (a ++ c :: (List.replicate m 100 ++ b)) → ∃ G2, (∀ Q, ae_wp (d + 1) mX9_fold 18 [some (.ref (x + 11)), some (.int (nI j)), some (.int (nI n)), some (.int (nI k))] [] G Q = Q none G2) ∧ pat G2 x (a ++ 100 :: b) ∧ frP G G2 x := by
  intro m
  induction m with
  | zero =>
    intro k G hk ht hp
    have e : k = n := by omega
    subst e
    obtain ⟨g, p1, p2, p3⟩ := hp
    have o2 : ∀ K, ae_gw G (x + 11) 9 2 K = K (.ref (x + 12)) := fun K => by unfold ae_gw; rw [ht]; rfl
    have hl0 : (a ++ c :: (List.replicate 0 100 ++ b)) = a ++ c :: b := rfl
    rw [hl0] at p1 p2 p3
    obtain ⟨f2, i1, i2⟩ := m_X1_set (d := d) (w := 100) (i := a.length) p1 p2 p3 (by omega) (by simp)
    have e2 : (a ++ c :: b).set a.length 100 = a ++ 100 :: b := by simp
    rw [e2] at i2
    have e3 : (a ++ 100 :: b).length = (a ++ c :: b).length := by simp
    refine ⟨nset G (x + 12) 120 f2 (a ++ c :: b).length, fun Q => ?_, ⟨f2, by rw [e3]; exact nset_nmb _ _ _ _ _, i2, by rw [e3]; exact p3⟩, frP_nset _ _ _ _⟩
    rw [hj] at i1
    simp (disch := first | exact ae_isR_ref _ | exact ae_isR_null | exact ae_isR_rf _ | exact ae_cat_ref _ | exact ae_cat_int _ | exact ae_cat_null | exact ae_cat_rf _ | exact ae_nz0 | exact ae_nz1 | exact ae_fz0 | exact ae_fz1 | exact cI_na (by omega) | exact cI_ix (by omega) | exact cI_nn (by omega) | exact cI_nz (by omega) | exact cI_cp (by omega) | assumption | omega) only [s_X9_fold_18, s_X9_fold_19, s_X9_fold_20, s_X9_fold_39, s_X9_fold_40, s_X9_fold_43, s_X9_fold_44, s_X9_fold_46 p1.1, s_X9_fold_49, og_0, og_1, og_2, og_3, og_4, og_5, og_6, og_7, og_8, og_9, og_10, og_11, og_12, op_6, op_8, op_9, op_10, op_11, op_12, dg_0, dg_1, dg_2, dg_3, dp_1, dp_2, dp_3, ng_b, ng_d, mz_m, ms_m, ov_2, nset_d, nset_b, uI_1, uI_2, uR_1, uR_21, uR_22, va_rf, Bool.false_eq_true, ae_Ki, ae_Kb, ae_Kj, ae_Ka, ae_Si, ae_Sb, ae_Sj, ae_Sn, List.getElem?_cons_succ, List.getElem?_cons_zero, ↓reduceIte, if_true, if_false, nI_ofNat, true_or, or_true, false_or, or_false, true_and, and_true, false_and, and_false, or_self, and_self, not_true_eq_false, not_false_eq_true, eq_self, List.length_cons, List.length_nil, Nat.reduceAdd, Nat.reduceLT, Nat.reduceSub, List.set_cons_succ, List.set_cons_zero, Option.toList, List.nil_append, List.cons_append, cI_ltT, cI_ltF, cI_leT, cI_leF, cI_eqT, cI_eqF, cI_cl, cN_leT, cN_leF, cN_ltT, cN_ltF, cN_eqT, cN_eqF, cI_add, cI_sub, cI_m1a, cI_m1b, cI_m1c, cI_m1d, cI_m1e, cI_m1f, o2, i1]
  | succ m ih =>
    intro k G hk ht hp
    obtain ⟨g, p1, p2, p3⟩ := hp
    have o2 : ∀ K, ae_gw G (x + 11) 9 2 K = K (.ref (x + 12)) := fun K => by unfold ae_gw; rw [ht]; rfl
    have hl0 : (a ++ c :: (List.replicate (m + 1) 100 ++ b)) = (a ++ [c]) ++ 100 :: (List.replicate m 100 ++ b) := by simp [List.replicate_succ]
    have e4 : (a ++ [c]).length = j + 1 := by simp [hj]
    obtain ⟨f2, i1, i2⟩ := m_X1_remove (d := d) (i := j + 1) p1 p2 p3 (by omega) (by rw [hl0, List.length_append, e4]; simp)
    have e2 : lremove (a ++ c :: (List.replicate (m + 1) 100 ++ b)) (j + 1) = a ++ c :: (List.replicate m 100 ++ b) := by
      rw [hl0, ← e4, lremove_at]
      simp
    rw [e2] at i2
    have hf := frP_nset G x f2 ((a ++ c :: (List.replicate (m + 1) 100 ++ b)).length - 1)
    have e5 : (a ++ c :: (List.replicate m 100 ++ b)).length = (a ++ c :: (List.replicate (m + 1) 100 ++ b)).length - 1 := by
      simp only [List.length_append, List.length_cons, List.length_replicate]; omega
    obtain ⟨G2, k1, k2, k3⟩ := ih (k + 1) (nset G (x + 12) 120 f2 ((a ++ c :: (List.replicate (m + 1) 100 ++ b)).length - 1)) (by omega) (frP_tmk hf ht) ⟨f2, by rw [e5]; exact nset_nmb _ _ _ _ _, i2, by omega⟩
    refine ⟨G2, fun Q => ?_, k2, frP_trans hf k3⟩
    refine Eq.trans ?_ (s_X9_fold_36.trans (k1 Q))
    simp (disch := first | exact ae_isR_ref _ | exact ae_isR_null | exact ae_isR_rf _ | exact ae_cat_ref _ | exact ae_cat_int _ | exact ae_cat_null | exact ae_cat_rf _ | exact ae_nz0 | exact ae_nz1 | exact ae_fz0 | exact ae_fz1 | exact cI_na (by omega) | exact cI_ix (by omega) | exact cI_nn (by omega) | exact cI_nz (by omega) | exact cI_cp (by omega) | assumption | omega) only [s_X9_fold_18, s_X9_fold_19, s_X9_fold_20, s_X9_fold_23, s_X9_fold_24, s_X9_fold_27, s_X9_fold_28, s_X9_fold_29, s_X9_fold_30 p1.1, s_X9_fold_33, og_0, og_1, og_2, og_3, og_4, og_5, og_6, og_7, og_8, og_9, og_10, og_11, og_12, op_6, op_8, op_9, op_10, op_11, op_12, dg_0, dg_1, dg_2, dg_3, dp_1, dp_2, dp_3, ng_b, ng_d, mz_m, ms_m, ov_2, nset_d, nset_b, uI_1, uI_2, uR_1, uR_21, uR_22, va_rf, Bool.false_eq_true, ae_Ki, ae_Kb, ae_Kj, ae_Ka, ae_Si, ae_Sb, ae_Sj, ae_Sn, List.getElem?_cons_succ, List.getElem?_cons_zero, ↓reduceIte, if_true, if_false, nI_ofNat, true_or, or_true, false_or, or_false, true_and, and_true, false_and, and_false, or_self, and_self, not_true_eq_false, not_false_eq_true, eq_self, List.length_cons, List.length_nil, Nat.reduceAdd, Nat.reduceLT, Nat.reduceSub, List.set_cons_succ, List.set_cons_zero, Option.toList, List.nil_append, List.cons_append, cI_ltT, cI_ltF, cI_leT, cI_leF, cI_eqT, cI_eqF, cI_cl, cN_leT, cN_leF, cN_ltT, cN_ltF, cN_eqT, cN_eqF, cI_add, cI_sub, cI_m1a, cI_m1b, cI_m1c, cI_m1d, cI_m1e, cI_m1f, o2, i1]
theorem m_X9_fold (hA : arl A ns ar) {G : ah_H} {c : Nat} (hc : c < 256) {a b : List Nat} (ht : tmk G x) (hs : sym G (x + 1) ns ar fn) (hp : pat G x (a ++ c :: (List.replicate (A c) 100 ++ b))) : ∃ G2, (∀ Q, ae_wm (d + 1) mX9_fold [.ref (x + 11), .int (nI a.length)] G Q = Q none G2) ∧ pat G2 x (a ++ 100 :: b) ∧ frP G G2 x := by
  have hp0 := hp
  obtain ⟨g, p1, p2, p3⟩ := hp0
  have hA3 := arl_le hA c
  have o0 : ∀ K, ae_gw G (x + 11) 9 0 K = K (.ref (x + 1)) := fun K => by unfold ae_gw; rw [ht]; rfl
  have o2 : ∀ K, ae_gw G (x + 11) 9 2 K = K (.ref (x + 12)) := fun K => by unfold ae_gw; rw [ht]; rfl
  have hlt : a.length < (a ++ c :: (List.replicate (A c) 100 ++ b)).length := by simp
  have gB := fun Q => m_X1_at_l (d := d) (Q := Q) (i := a.length) p1 (by omega) p2 hlt p3
  have e1 : (a ++ c :: (List.replicate (A c) 100 ++ b)).getD a.length 0 = c := by simp [List.getD_eq_getElem?_getD]
  rw [e1] at gB
  have gA := fun Q => m_X7_argumentsOf (d := d) (Q := Q) (v := c) hs hA (by omega)
  obtain ⟨G2, k1, k2, k3⟩ := m_X9_fo_loop (d := d) (x := x) (a := a) (b := b) (c := c) rfl hA3 (A c) 0 G (by omega) ht hp
  refine ⟨G2, fun Q => ?_, k2, k3⟩
  have : a.length < 120 := by omega
  simp (disch := first | exact ae_isR_ref _ | exact ae_isR_null | exact ae_isR_rf _ | exact ae_cat_ref _ | exact ae_cat_int _ | exact ae_cat_null | exact ae_cat_rf _ | exact ae_nz0 | exact ae_nz1 | exact ae_fz0 | exact ae_fz1 | exact cI_na (by omega) | exact cI_ix (by omega) | exact cI_nn (by omega) | exact cI_nz (by omega) | exact cI_cp (by omega) | assumption | omega) only [s_X9_fold_0, s_X9_fold_1, s_X9_fold_4, s_X9_fold_5, s_X9_fold_8, s_X9_fold_9 p1.1, s_X9_fold_12 hs.1, s_X9_fold_15, s_X9_fold_16, s_X9_fold_17, e_X9_fold, og_0, og_1, og_2, og_3, og_4, og_5, og_6, og_7, og_8, og_9, og_10, og_11, og_12, op_6, op_8, op_9, op_10, op_11, op_12, dg_0, dg_1, dg_2, dg_3, dp_1, dp_2, dp_3, ng_b, ng_d, mz_m, ms_m, ov_2, nset_d, nset_b, uI_1, uI_2, uR_1, uR_21, uR_22, va_rf, Bool.false_eq_true, ae_Ki, ae_Kb, ae_Kj, ae_Ka, ae_Si, ae_Sb, ae_Sj, ae_Sn, List.getElem?_cons_succ, List.getElem?_cons_zero, ↓reduceIte, if_true, if_false, nI_ofNat, true_or, or_true, false_or, or_false, true_and, and_true, false_and, and_false, or_self, and_self, not_true_eq_false, not_false_eq_true, eq_self, List.length_cons, List.length_nil, Nat.reduceAdd, Nat.reduceLT, Nat.reduceSub, List.set_cons_succ, List.set_cons_zero, Option.toList, List.nil_append, List.cons_append, cI_ltT, cI_ltF, cI_leT, cI_leF, cI_eqT, cI_eqF, cI_cl, cN_leT, cN_leF, cN_ltT, cN_ltF, cN_eqT, cN_eqF, cI_add, cI_sub, cI_m1a, cI_m1b, cI_m1c, cI_m1d, cI_m1e, cI_m1f, o0, o2, gB, gA, k1]
end PAT
