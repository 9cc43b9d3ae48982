/-! NarrowSolver$Symbols.follow; where a needed place stands -/
theorem wlk_app {A : Nat → Nat} {e a : List Nat} (hac : acm A e) : ∀ (p : List Nat) (i : Nat), mtc A e p i → mtc A (e ++ a) p i ∧ wlk A (e ++ a) p i = wlk A e p i := by
  intro p
  induction p with
  | nil => intro i h; exact ⟨by show i ≤ _; rw [List.length_append]; exact Nat.le_trans h (Nat.le_add_right _ _), rfl⟩
  | cons x p ih =>
    intro i h
    obtain ⟨h1, h2⟩ := h
    have h3 : i < (e ++ a).length := by rw [List.length_append]; omega
    by_cases c : x = 99
    · rw [if_pos c] at h2
      obtain ⟨g1, g2⟩ := ih _ h2
      have ht := te_app (r := a) (hac i h1)
      refine ⟨⟨h3, ?_⟩, ?_⟩
      · rw [if_pos c, ht]; exact g1
      · simp only [wlk, if_pos c, ht]; exact g2
    · rw [if_neg c] at h2
      obtain ⟨g1, g2⟩ := ih _ h2.2
      refine ⟨⟨h3, ?_⟩, ?_⟩
      · rw [if_neg c, getD_app1 h1]; exact ⟨h2.1, g1⟩
      · simp only [wlk, if_neg c]; exact g2
/-- the way along digits, with zeros before them -/
def folz (A : Nat → Nat) (l : List Nat) : List Nat → Nat → Nat
  | [], i => i
  | d :: D, i => folz A l D (if d = 0 then i else chd A l i d)
def okf (A : Nat → Nat) (l : List Nat) : List Nat → Nat → Prop
  | [], _ => True
  | d :: D, i => if d = 0 then okf A l D i else i < l.length ∧ okf A l D (chd A l i d)
theorem folz_fol {A : Nat → Nat} {l : List Nat} : ∀ (ds : List Nat) (i : Nat), (∀ d, d ∈ ds → 1 ≤ d ∧ d ≤ 3) → folz A l ds i = fol A l ds i := by
  intro ds
  induction ds with
  | nil => intro i _; rfl
  | cons d ds ih =>
    intro i h
    have := h d (by simp)
    simp only [folz, fol]
    rw [if_neg (by omega), ih _ (fun x hx => h x (by simp [hx]))]
theorem folz_zeros {A : Nat → Nat} {l D : List Nat} : ∀ (z i : Nat), folz A l (List.replicate z 0 ++ D) i = folz A l D i := by
  intro z
  induction z with
  | zero => intro i; rfl
  | succ z ih => intro i; simp only [List.replicate_succ, List.cons_append, folz, if_true, ih]
theorem okf_zeros {A : Nat → Nat} {l D : List Nat} : ∀ (z i : Nat), okf A l (List.replicate z 0 ++ D) i ↔ okf A l D i := by
  intro z
  induction z with
  | zero => intro i; exact Iff.rfl
  | succ z ih => intro i; simp only [List.replicate_succ, List.cons_append, okf, if_true, ih]
theorem vpt_okf {A : Nat → Nat} {l p : List Nat} {i0 : Nat} (h99 : A 99 = 0) (hm : mtc A l p i0) : ∀ (ds : List Nat) (a j m m2 : Nat), rn A (p.drop a) (m + 1) = some 0 → rn A (l.drop (wlk A l (p.take a) i0)) (m2 + 1) = some 0 → vp A p a ds j → okf A l ds (wlk A l (p.take a) i0) := by
  intro ds
  induction ds with
  | nil => intro a j m m2 _ _ _; trivial
  | cons d ds ih =>
    intro a j m m2 h1 h2 hv
    obtain ⟨v1, v2, v3⟩ := hv
    obtain ⟨t1, t2, t3⟩ := te_args h1
    obtain ⟨q1, q2⟩ := mtc_at hm t2
    have cx : p.getD a 0 ≠ 99 := fun z => by rw [z, h99] at v2; omega
    have q3 := q2 cx
    simp only [okf]
    rw [if_neg (by omega)]
    obtain ⟨r1, _⟩ := rn_chd h1 v1 v2
    obtain ⟨r4, _⟩ := rn_chd h2 v1 (by rw [q3]; omega)
    have hd := (vpt_fol h99 hm [d] a (chd A p a d) m m2 h1 h2 ⟨v1, v2, rfl⟩).1
    have hd : chd A l (wlk A l (p.take a) i0) d = wlk A l (p.take (chd A p a d)) i0 := hd
    refine ⟨q1, ?_⟩
    rw [hd] at r4 ⊢
    exact ih _ j _ _ r1 r4 v3
theorem plv_fold : ∀ (D : List Nat) (v : Nat), D.foldl (fun v d => 10 * v + d) v = v * 10 ^ D.length + plv D := by
  intro D
  induction D with
  | nil => intro v; simp [plv]
  | cons d D ih =>
    intro v
    have h1 := ih (10 * v + d)
    have h2 : plv (d :: D) = D.foldl (fun v d => 10 * v + d) d := by simp [plv]
    rw [List.foldl_cons, h1, h2, ih d, List.length_cons, Nat.pow_succ, Nat.add_mul, Nat.mul_comm 10 v, Nat.mul_assoc, Nat.mul_comm 10 (10 ^ D.length), Nat.add_assoc]
theorem plv_cons (d : Nat) (D : List Nat) : plv (d :: D) = d * 10 ^ D.length + plv D := by
  have : plv (d :: D) = D.foldl (fun v d => 10 * v + d) d := by simp [plv]
  rw [this, plv_fold]
theorem plv_lt10 : ∀ (D : List Nat), (∀ d, d ∈ D → d < 10) → plv D < 10 ^ D.length := by
  intro D
  induction D with
  | nil => intro _; decide
  | cons d D ih =>
    intro h
    have h1 := ih (fun x hx => h x (by simp [hx]))
    have h2 := h d (by simp)
    rw [plv_cons, List.length_cons, Nat.pow_succ]
    have h3 : d * 10 ^ D.length ≤ 9 * 10 ^ D.length := Nat.mul_le_mul_right _ (by omega)
    omega
theorem dig_at {hi d k V : Nat} (hd : d < 10) (hV : V < 10 ^ k) : (hi * 10 ^ (k + 1) + (d * 10 ^ k + V)) / 10 ^ k % 10 = d := by
  have h0 : 0 < 10 ^ k := Nat.pow_pos (by decide)
  have e : hi * 10 ^ (k + 1) + (d * 10 ^ k + V) = V + (hi * 10 + d) * 10 ^ k := by
    rw [Nat.pow_succ, Nat.add_mul, Nat.mul_assoc, Nat.mul_comm 10 (10 ^ k)]
    omega
  rw [e, Nat.add_mul_div_right _ _ h0, Nat.div_eq_of_lt hV]
  omega
section FOL
variable {d : Nat} {Q : Option Value → ah_H → Prop} {h : ah_H} {q ns o n : Nat} {ar fn g : Nat → Int32} {A : Nat → Nat} {l : List Nat}
theorem m_X7_fl_in (hs : sym h q ns ar fn) (hA : arl A ns ar) (hp : nmb h o n g l.length) (hn : n < 536870912) (hln : l.length ≤ n) (hl : rowl l g) (hsm : sml l) {dg : Nat} (hd : dg < 10) {l2 l3 l5 : Option Value} : ∀ (m k i : Nat), k + m = dg → 1 ≤ k → i ≤ l.length → ae_wp (d + 2) mX7_follow 39 [some (.ref q), some (.ref o), l2, l3, some (.int (nI i)), l5, some (.int (nI dg)), some (.int (nI k))] [] h Q = ae_wp (d + 2) mX7_follow 61 [some (.ref q), some (.ref o), l2, l3, some (.int (nI (tes A l m i))), l5, some (.int (nI dg)), some (.int (nI dg))] [] h Q := by
  intro m
  induction m with
  | zero =>
    intro k i hk h1 hi
    have e : k = dg := by omega
    subst e
    simp (disch := first | exact ae_isR_ref _ | exact ae_isR_null | exact ae_isR_rf _ | exact ae_cat_ref _ | exact ae_cat_int _ | exact ae_cat_null | exact ae_cat_rf _ | exact ae_nz0 | exact ae_nz1 | exact ae_fz0 | exact ae_fz1 | exact cI_na (by omega) | exact cI_ix (by omega) | exact cI_nn (by omega) | exact cI_nz (by omega) | exact cI_cp (by omega) | assumption | omega) only [s_X7_follow_39, s_X7_follow_41, s_X7_follow_43, Bool.false_eq_true, ae_gw, ae_pw, ae_zw, ae_Ki, ae_Kb, ae_Kj, ae_Ka, ae_Si, ae_Sb, ae_Sj, ae_Sn, List.getElem?_cons_succ, List.getElem?_cons_zero, ↓reduceIte, if_true, if_false, nI_ofNat, true_or, or_true, false_or, or_false, true_and, and_true, false_and, and_false, or_self, and_self, not_true_eq_false, not_false_eq_true, eq_self, List.length_cons, List.length_nil, Nat.reduceAdd, Nat.reduceLT, Nat.reduceSub, List.set_cons_succ, List.set_cons_zero, Option.toList, List.nil_append, List.cons_append, cI_ltT, cI_ltF, cI_leT, cI_leF, cI_eqT, cI_eqF, cI_cl, cN_leT, cN_leF, cN_ltT, cN_ltF, cN_eqT, cN_eqF, cI_add, cI_sub, cI_m1a, cI_m1b, cI_m1c, cI_m1d, cI_m1e, cI_m1f, hs_eq, hs_ne, hs_2, hs_hs, hn_eq, hn_ne, hn_21, hn_22, hn_23, tes]
  | succ m ih =>
    intro k i hk h1 hi
    have gE := fun Q => m_X7_endOfTerm (d := d) (Q := Q) (i := i) hs hA hp hn hln hl hsm hi
    refine Eq.trans ?_ (s_X7_follow_58.trans (ih (k + 1) (te A l i) (by omega) (by omega) (te_le A l hi)))
    simp (disch := first | exact ae_isR_ref _ | exact ae_isR_null | exact ae_isR_rf _ | exact ae_cat_ref _ | exact ae_cat_int _ | exact ae_cat_null | exact ae_cat_rf _ | exact ae_nz0 | exact ae_nz1 | exact ae_fz0 | exact ae_fz1 | exact cI_na (by omega) | exact cI_ix (by omega) | exact cI_nn (by omega) | exact cI_nz (by omega) | exact cI_cp (by omega) | assumption | omega) only [s_X7_follow_39, s_X7_follow_41, s_X7_follow_43, s_X7_follow_46, s_X7_follow_47, s_X7_follow_48, s_X7_follow_50 hs.1, s_X7_follow_53, s_X7_follow_55, Bool.false_eq_true, ae_gw, ae_pw, ae_zw, ae_Ki, ae_Kb, ae_Kj, ae_Ka, ae_Si, ae_Sb, ae_Sj, ae_Sn, List.getElem?_cons_succ, List.getElem?_cons_zero, ↓reduceIte, if_true, if_false, nI_ofNat, true_or, or_true, false_or, or_false, true_and, and_true, false_and, and_false, or_self, and_self, not_true_eq_false, not_false_eq_true, eq_self, List.length_cons, List.length_nil, Nat.reduceAdd, Nat.reduceLT, Nat.reduceSub, List.set_cons_succ, List.set_cons_zero, Option.toList, List.nil_append, List.cons_append, cI_ltT, cI_ltF, cI_leT, cI_leF, cI_eqT, cI_eqF, cI_cl, cN_leT, cN_leF, cN_ltT, cN_ltF, cN_eqT, cN_eqF, cI_add, cI_sub, cI_m1a, cI_m1b, cI_m1c, cI_m1d, cI_m1e, cI_m1f, hs_eq, hs_ne, hs_2, hs_hs, hn_eq, hn_ne, hn_21, hn_22, hn_23, gE]
theorem m_X7_fl_loop (hs : sym h q ns ar fn) (hA : arl A ns ar) (hp : nmb h o n g l.length) (hn : n < 536870912) (hln : l.length ≤ n) (hl : rowl l g) (hsm : sml l) (hl3 : l.length < 2147483000) {pl : Nat} (hpl : pl < 2147483648) {l2 : Option Value} : ∀ (D : List Nat) (hi i : Nat) (l6 l7 : Option Value), D.length ≤ 8 → (∀ d, d ∈ D → d ≤ 3) → pl = hi * 10 ^ D.length + plv D → i ≤ l.length → okf A l D i → ae_wp (d + 2) mX7_follow 7 [some (.ref q), some (.ref o), l2, some (.int (nI pl)), some (.int (nI i)), some (.int (nI (10 ^ D.length / 10))), l6, l7] [] h Q = Q (some (.int (nI (folz A l D i)))) h := by
  intro D
  induction D with
  | nil =>
    intro hi i l6 l7 h1 h2 h3 h4 h5
    simp (disch := first | exact ae_isR_ref _ | exact ae_isR_null | exact ae_isR_rf _ | exact ae_cat_ref _ | exact ae_cat_int _ | exact ae_cat_null | exact ae_cat_rf _ | exact ae_nz0 | exact ae_nz1 | exact ae_fz0 | exact ae_fz1 | exact cI_na (by omega) | exact cI_ix (by omega) | exact cI_nn (by omega) | exact cI_nz (by omega) | exact cI_cp (by omega) | assumption | omega) only [s_X7_follow_7, s_X7_follow_9, s_X7_follow_71, s_X7_follow_73, Bool.false_eq_true, ae_gw, ae_pw, ae_zw, ae_Ki, ae_Kb, ae_Kj, ae_Ka, ae_Si, ae_Sb, ae_Sj, ae_Sn, List.getElem?_cons_succ, List.getElem?_cons_zero, ↓reduceIte, if_true, if_false, nI_ofNat, true_or, or_true, false_or, or_false, true_and, and_true, false_and, and_false, or_self, and_self, not_true_eq_false, not_false_eq_true, eq_self, List.length_cons, List.length_nil, Nat.reduceAdd, Nat.reduceLT, Nat.reduceSub, List.set_cons_succ, List.set_cons_zero, Option.toList, List.nil_append, List.cons_append, cI_ltT, cI_ltF, cI_leT, cI_leF, cI_eqT, cI_eqF, cI_cl, cN_leT, cN_leF, cN_ltT, cN_ltF, cN_eqT, cN_eqF, cI_add, cI_sub, cI_m1a, cI_m1b, cI_m1c, cI_m1d, cI_m1e, cI_m1f, hs_eq, hs_ne, hs_2, hs_hs, hn_eq, hn_ne, hn_21, hn_22, hn_23, show 10 ^ ([] : List Nat).length / 10 = 0 from rfl, folz]
  | cons dg D ih =>
    intro hi i l6 l7 h1 h2 h3 h4 h5
    have hdg := h2 dg (by simp)
    have hV := plv_lt10 D (fun x hx => by have := h2 x (by simp [hx]); omega)
    have hlc : (dg :: D).length = D.length + 1 := rfl
    have e0 : 10 ^ (dg :: D).length / 10 = 10 ^ D.length := by rw [hlc, Nat.pow_succ]; omega
    have hp0 : 0 < 10 ^ D.length := Nat.pow_pos (by decide)
    have hp7 : 10 ^ D.length ≤ 10 ^ 7 := Nat.pow_le_pow_right (by decide) (by rw [hlc] at h1; omega)
    have hp8 : (10 : Nat) ^ 7 = 10000000 := by decide
    have hdig : pl / 10 ^ D.length % 10 = dg := by
      rw [h3, hlc, plv_cons]
      exact dig_at (by omega) hV
    have h3' : pl = (hi * 10 + dg) * 10 ^ D.length + plv D := by
      rw [h3, hlc, plv_cons, Nat.pow_succ, Nat.add_mul, Nat.mul_assoc, Nat.mul_comm 10 (10 ^ D.length)]
      omega
    have ihx := fun i l6 l7 => ih (hi * 10 + dg) i l6 l7 (by rw [hlc] at h1; omega) (fun x hx => h2 x (by simp [hx])) h3'
    rw [e0]
    generalize hu : 10 ^ D.length = un at *
    have hq1 : pl / un < 2147483648 := Nat.lt_of_le_of_lt (Nat.div_le_self _ _) hpl
    by_cases c : dg = 0
    · subst c
      simp only [okf, if_true] at h5
      have e1 : folz A l (0 :: D) i = folz A l D i := rfl
      rw [e1]
      have gi := fun Q => m_X7_fl_in (d := d) (Q := Q) hs hA hp hn hln hl hsm (dg := 0) (by decide) (l2 := l2) (l3 := some (.int (nI pl))) (l5 := some (.int (nI un)))
      refine Eq.trans ?_ (s_X7_follow_68.trans (ihx i (some (.int (nI 0))) (some (.int (nI 1))) h4 h5))
      simp (disch := first | exact ae_isR_ref _ | exact ae_isR_null | exact ae_isR_rf _ | exact ae_cat_ref _ | exact ae_cat_int _ | exact ae_cat_null | exact ae_cat_rf _ | exact ae_nz0 | exact ae_nz1 | exact ae_fz0 | exact ae_fz1 | exact cI_na (by omega) | exact cI_ix (by omega) | exact cI_nn (by omega) | exact cI_nz (by omega) | exact cI_cp (by omega) | assumption | omega) only [s_X7_follow_7, s_X7_follow_9, s_X7_follow_12, s_X7_follow_13, s_X7_follow_15, s_X7_follow_16, s_X7_follow_18, s_X7_follow_19, s_X7_follow_21, s_X7_follow_23, s_X7_follow_25, s_X7_follow_28, s_X7_follow_29, s_X7_follow_32, s_X7_follow_33, s_X7_follow_34, s_X7_follow_36, s_X7_follow_37, s_X7_follow_39, s_X7_follow_41, s_X7_follow_43, s_X7_follow_61, s_X7_follow_63, s_X7_follow_65, s_X7_follow_66, Bool.false_eq_true, ae_gw, ae_pw, ae_zw, ae_Ki, ae_Kb, ae_Kj, ae_Ka, ae_Si, ae_Sb, ae_Sj, ae_Sn, List.getElem?_cons_succ, List.getElem?_cons_zero, ↓reduceIte, if_true, if_false, nI_ofNat, true_or, or_true, false_or, or_false, true_and, and_true, false_and, and_false, or_self, and_self, not_true_eq_false, not_false_eq_true, eq_self, List.length_cons, List.length_nil, Nat.reduceAdd, Nat.reduceLT, Nat.reduceSub, List.set_cons_succ, List.set_cons_zero, Option.toList, List.nil_append, List.cons_append, cI_ltT, cI_ltF, cI_leT, cI_leF, cI_eqT, cI_eqF, cI_cl, cN_leT, cN_leF, cN_ltT, cN_ltF, cN_eqT, cN_eqF, cI_add, cI_sub, cI_m1a, cI_m1b, cI_m1c, cI_m1d, cI_m1e, cI_m1f, hs_eq, hs_ne, hs_2, hs_hs, hn_eq, hn_ne, hn_21, hn_22, hn_23, cI_div, cI_rem, hdig, Nat.add_zero]
    · simp only [okf] at h5
      rw [if_neg c] at h5
      have e1 : folz A l (dg :: D) i = folz A l D (chd A l i dg) := by simp only [folz]; rw [if_neg c]
      rw [e1]
      have hch : chd A l i dg ≤ l.length := by
        unfold chd
        have : ∀ m j, j ≤ l.length → tes A l m j ≤ l.length := by
          intro m
          induction m with
          | zero => intro j hj; exact hj
          | succ m ihm => intro j hj; exact ihm _ (te_le A l hj)
        exact this _ _ (by omega)
      have gi := fun Q => m_X7_fl_in (d := d) (Q := Q) hs hA hp hn hln hl hsm (dg := dg) (by omega) (l2 := l2) (l3 := some (.int (nI pl))) (l5 := some (.int (nI un))) (dg - 1) 1 (i + 1) (by omega) (by omega) (by omega)
      refine Eq.trans ?_ (s_X7_follow_68.trans (ihx (chd A l i dg) (some (.int (nI dg))) (some (.int (nI dg))) hch h5.2))
      simp (disch := first | exact ae_isR_ref _ | exact ae_isR_null | exact ae_isR_rf _ | exact ae_cat_ref _ | exact ae_cat_int _ | exact ae_cat_null | exact ae_cat_rf _ | exact ae_nz0 | exact ae_nz1 | exact ae_fz0 | exact ae_fz1 | exact cI_na (by omega) | exact cI_ix (by omega) | exact cI_nn (by omega) | exact cI_nz (by omega) | exact cI_cp (by omega) | assumption | omega) only [s_X7_follow_7, s_X7_follow_9, s_X7_follow_12, s_X7_follow_13, s_X7_follow_15, s_X7_follow_16, s_X7_follow_18, s_X7_follow_19, s_X7_follow_21, s_X7_follow_23, s_X7_follow_25, s_X7_follow_28, s_X7_follow_29, s_X7_follow_32, s_X7_follow_33, s_X7_follow_34, s_X7_follow_36, s_X7_follow_37, gi, s_X7_follow_61, s_X7_follow_63, s_X7_follow_65, s_X7_follow_66, Bool.false_eq_true, ae_gw, ae_pw, ae_zw, ae_Ki, ae_Kb, ae_Kj, ae_Ka, ae_Si, ae_Sb, ae_Sj, ae_Sn, List.getElem?_cons_succ, List.getElem?_cons_zero, ↓reduceIte, if_true, if_false, nI_ofNat, true_or, or_true, false_or, or_false, true_and, and_true, false_and, and_false, or_self, and_self, not_true_eq_false, not_false_eq_true, eq_self, List.length_cons, List.length_nil, Nat.reduceAdd, Nat.reduceLT, Nat.reduceSub, List.set_cons_succ, List.set_cons_zero, Option.toList, List.nil_append, List.cons_append, cI_ltT, cI_ltF, cI_leT, cI_leF, cI_eqT, cI_eqF, cI_cl, cN_leT, cN_leF, cN_ltT, cN_ltF, cN_eqT, cN_eqF, cI_add, cI_sub, cI_m1a, cI_m1b, cI_m1c, cI_m1d, cI_m1e, cI_m1f, hs_eq, hs_ne, hs_2, hs_hs, hn_eq, hn_ne, hn_21, hn_22, hn_23, cI_div, cI_rem, hdig, chd]
theorem m_X7_follow (hs : sym h q ns ar fn) (hA : arl A ns ar) (hp : nmb h o n g l.length) (hn : n < 536870912) (hln : l.length ≤ n) (hl : rowl l g) (hsm : sml l) {ds : List Nat} (hds : ∀ d, d ∈ ds → 1 ≤ d ∧ d ≤ 3) (h8 : ds.length ≤ 8) {i : Nat} (hi : i ≤ l.length) (hok : okf A l ds i) : ae_wm (d + 2) mX7_follow [.ref q, .ref o, .int (nI i), .int (nI (plv ds))] h Q = Q (some (.int (nI (fol A l ds i)))) h := by
  have hz : (List.replicate (8 - ds.length) 0 ++ ds).length = 8 := by simp; omega
  have hpz : ∀ z, plv (List.replicate z 0 ++ ds) = plv ds := by
    intro z
    induction z with
    | zero => rfl
    | succ z ih => rw [List.replicate_succ, List.cons_append, plv_cons, ih]; omega
  have hp8 : plv ds < 2147483648 := by
    have h1 := plv_lt ds hds
    have h2 : 10 ^ ds.length ≤ 10 ^ 8 := Nat.pow_le_pow_right (by decide) h8
    have h3 : (10 : Nat) ^ 8 = 100000000 := by decide
    omega
  have g := m_X7_fl_loop (d := d) (Q := Q) hs hA hp hn hln hl hsm (by omega) hp8 (l2 := some (.int (nI i))) (List.replicate (8 - ds.length) 0 ++ ds) 0 i none none (by omega) (fun x hx => by
    rcases List.mem_append.mp hx with z | z
    · rw [(List.mem_replicate.mp z).2]; omega
    · exact (hds x z).2) (by rw [hpz]; omega) hi ((okf_zeros _ _).mpr hok)
  rw [folz_zeros, folz_fol ds i hds, hz, show (10 : Nat) ^ 8 / 10 = 10000000 by decide] at g
  simp (disch := first | exact ae_isR_ref _ | exact ae_isR_null | exact ae_isR_rf _ | exact ae_cat_ref _ | exact ae_cat_int _ | exact ae_cat_null | exact ae_cat_rf _ | exact ae_nz0 | exact ae_nz1 | exact ae_fz0 | exact ae_fz1 | exact cI_na (by omega) | exact cI_ix (by omega) | exact cI_nn (by omega) | exact cI_nz (by omega) | exact cI_cp (by omega) | assumption | omega) only [s_X7_follow_0, s_X7_follow_1, s_X7_follow_3, s_X7_follow_5, e_X7_follow, g]
end FOL
