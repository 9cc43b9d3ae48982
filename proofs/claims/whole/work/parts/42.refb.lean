/-! NarrowSolverModel: the row that is being given -/
def lf (L : List Nat) (g : Nat → Int32) (i : Nat) : Int32 := if i < L.length then nI (L.getD i 0) else g i
theorem lf_nil (g : Nat → Int32) : lf [] g = g := by funext i; simp [lf]
theorem lf_snoc (L : List Nat) (g : Nat → Int32) (v : Nat) : upd (lf L g) L.length (nI v) = lf (L ++ [v]) g := by
  funext i
  simp only [lf, upd, List.length_append, List.length_cons, List.length_nil]
  by_cases h1 : i = L.length
  · subst h1; simp
  · by_cases h2 : i < L.length
    · have h3 : i < L.length + 1 := by omega
      simp [h1, h2, h3, List.getD_eq_getElem?_getD, List.getElem?_append_left h2]
    · have h3 : ¬ i < L.length + 1 := by omega
      simp [h1, h2, h3]
theorem lf_row (L : List Nat) (g : Nat → Int32) : rowl L (lf L g) := fun i hi => by simp [lf, hi]
def sl (l : List Nat) (a b : Nat) : List Nat := (l.drop a).take (b - a)
theorem drop_cons {l : List Nat} {a : Nat} (h : a < l.length) : l.drop a = l.getD a 0 :: l.drop (a + 1) := by
  rw [List.drop_eq_getElem_cons h]
  simp [List.getD_eq_getElem?_getD, h]
theorem sl_cons {l : List Nat} {a b : Nat} (h : a < b) (hb : b ≤ l.length) : sl l a b = l.getD a 0 :: sl l (a + 1) b := by
  unfold sl
  rw [drop_cons (by omega), show b - a = (b - (a + 1)) + 1 by omega, List.take_succ_cons]
theorem sl_nil {l : List Nat} {a b : Nat} (h : b ≤ a) : sl l a b = [] := by unfold sl; rw [show b - a = 0 by omega]; rfl
/-- v is replaced by b -/
def sbx (v : Int32) (b l : List Nat) : List Nat := l.flatMap (fun x => if nI x = v then b else [x])
theorem sbx_nil (v : Int32) (b : List Nat) : sbx v b [] = [] := rfl
theorem sbx_pos {v : Int32} {b l : List Nat} {x : Nat} (h : nI x = v) : sbx v b (x :: l) = b ++ sbx v b l := by simp [sbx, h]
theorem sbx_neg {v : Int32} {b l : List Nat} {x : Nat} (h : ¬ nI x = v) : sbx v b (x :: l) = x :: sbx v b l := by simp [sbx, h]
/-- the rows that are being given: L the equations', T the answer's -/
def nb (s : rS) (L T : List Nat) : rS := (fun k => if k = 41 then nI (min L.length 2500) else if k = 44 then nI (min T.length 2500) else if k = 45 then (if 2500 < L.length ∨ 2500 < T.length then nI 1 else nI 0) else s.1 k, fun k => if k = 40 then lf (L.take 2500) (s.2.1 40) else if k = 43 then lf (T.take 2500) (s.2.1 43) else s.2.1 k, s.2.2)
section REFB
variable {s : rS} {L T : List Nat} {k : Nat} {v : Int32} {g : Nat → Int32}
theorem nb_41 : (nb s L T).1 41 = nI (min L.length 2500) := rfl
theorem nb_44 : (nb s L T).1 44 = nI (min T.length 2500) := rfl
theorem nb_45 : (nb s L T).1 45 = if 2500 < L.length ∨ 2500 < T.length then nI 1 else nI 0 := rfl
theorem nb_I (h : k ≠ 41 ∧ k ≠ 44 ∧ k ≠ 45) : (nb s L T).1 k = s.1 k := by simp [nb, h]
theorem nb_40 : (nb s L T).2.1 40 = lf (L.take 2500) (s.2.1 40) := rfl
theorem nb_43 : (nb s L T).2.1 43 = lf (T.take 2500) (s.2.1 43) := rfl
theorem nb_R (h : k ≠ 40 ∧ k ≠ 43) : (nb s L T).2.1 k = s.2.1 k := by simp [nb, h]
theorem nb_2 : (nb s L T).2.2 = s.2.2 := rfl
theorem nb_uI (h : k ≠ 41 ∧ k ≠ 44 ∧ k ≠ 45) : uI (nb s L T) k v = nb (uI s k v) L T := by
  simp only [uI, nb]
  congr 1
  funext j
  by_cases e : j = k
  · subst e; simp [h]
  · simp [e]
theorem nb_uR (h : k ≠ 40 ∧ k ≠ 43) : uR (nb s L T) k g = nb (uR s k g) L T := by
  simp only [uR, nb]
  congr 2
  funext j
  by_cases e : j = k
  · subst e; simp [h]
  · simp [e, Ne.symm h.1, Ne.symm h.2]
theorem nb_eq {s s2 : rS} (h1 : ∀ j, s.1 j = s2.1 j) (h2 : ∀ j, s.2.1 j = s2.2.1 j) (h3 : s.2.2 = s2.2.2) : s = s2 := by
  obtain ⟨a, b, c⟩ := s
  obtain ⟨a', b', c'⟩ := s2
  have e1 : a = a' := funext h1
  have e2 : b = b' := funext h2
  have e3 : c = c' := h3
  rw [e1, e2, e3]
theorem nb_begin : uI (uI (uI (uI s 41 (nI 0)) 42 v) 44 (nI 0)) 45 (nI 0) = nb (uI s 42 v) [] [] := by
  refine nb_eq (fun j => ?_) (fun j => ?_) rfl
  · simp only [uI, nb]
    by_cases e1 : j = 41 <;> by_cases e2 : j = 44 <;> by_cases e3 : j = 45 <;> by_cases e4 : j = 42 <;> simp_all
  · simp only [uI, nb, List.take_nil, lf_nil]
    by_cases e1 : j = 40
    · simp [e1]
    · by_cases e2 : j = 43 <;> simp [e1, e2]
theorem nb_giveT (v : Nat) (h : 2500 ≤ L.length) : uI (nb s L T) 45 (nI 1) = nb s (L ++ [v]) T := by
  refine nb_eq (fun j => ?_) (fun j => ?_) rfl
  · rw [uI_1]
    by_cases e : j = 45
    · subst e
      rw [if_pos rfl, nb_45, if_pos (by simp; omega)]
    · rw [if_neg e]
      by_cases e1 : j = 41
      · subst e1
        rw [nb_41, nb_41]
        congr 1
        simp
        omega
      · by_cases e2 : j = 44
        · subst e2; rfl
        · rw [nb_I ⟨e1, e2, e⟩, nb_I ⟨e1, e2, e⟩]
  · rw [uI_2]
    by_cases e1 : j = 40
    · subst e1
      rw [nb_40, nb_40, List.take_append_of_le_length h]
    · by_cases e2 : j = 43
      · subst e2; rfl
      · rw [nb_R ⟨e1, e2⟩, nb_R ⟨e1, e2⟩]
theorem nb_giveF (v : Nat) (h : L.length < 2500) : uI (uR (nb s L T) 40 (upd (lf (L.take 2500) (s.2.1 40)) L.length (nI v))) 41 (nI (L.length + 1)) = nb s (L ++ [v]) T := by
  have e0 : L.take 2500 = L := List.take_of_length_le (by omega)
  have e5 : (L ++ [v]).take 2500 = L ++ [v] := List.take_of_length_le (by simp; omega)
  refine nb_eq (fun j => ?_) (fun j => ?_) rfl
  · rw [uI_1]
    by_cases e1 : j = 41
    · subst e1
      rw [if_pos rfl, nb_41]
      congr 1
      simp
      omega
    · rw [if_neg e1, uR_1]
      by_cases e2 : j = 44
      · subst e2; rfl
      · by_cases e : j = 45
        · subst e
          rw [nb_45, nb_45]
          have : (2500 < L.length ∨ 2500 < T.length) ↔ (2500 < (L ++ [v]).length ∨ 2500 < T.length) := by simp; omega
          simp only [this]
        · rw [nb_I ⟨e1, e2, e⟩, nb_I ⟨e1, e2, e⟩]
  · rw [uI_2, uR_21]
    by_cases e1 : j = 40
    · subst e1
      rw [if_pos rfl, nb_40, e0, e5, lf_snoc]
    · rw [if_neg e1]
      by_cases e2 : j = 43
      · subst e2; rfl
      · rw [nb_R ⟨e1, e2⟩, nb_R ⟨e1, e2⟩]
theorem nb_giveAT (v : Nat) (h : 2500 ≤ T.length) : uI (nb s L T) 45 (nI 1) = nb s L (T ++ [v]) := by
  refine nb_eq (fun j => ?_) (fun j => ?_) rfl
  · rw [uI_1]
    by_cases e : j = 45
    · subst e
      rw [if_pos rfl, nb_45, if_pos (by simp; omega)]
    · rw [if_neg e]
      by_cases e1 : j = 44
      · subst e1
        rw [nb_44, nb_44]
        congr 1
        simp
        omega
      · by_cases e2 : j = 41
        · subst e2; rfl
        · rw [nb_I ⟨e2, e1, e⟩, nb_I ⟨e2, e1, e⟩]
  · rw [uI_2]
    by_cases e1 : j = 43
    · subst e1
      rw [nb_43, nb_43, List.take_append_of_le_length h]
    · by_cases e2 : j = 40
      · subst e2; rfl
      · rw [nb_R ⟨e2, e1⟩, nb_R ⟨e2, e1⟩]
theorem nb_giveAF (v : Nat) (h : T.length < 2500) : uI (uR (nb s L T) 43 (upd (lf (T.take 2500) (s.2.1 43)) T.length (nI v))) 44 (nI (T.length + 1)) = nb s L (T ++ [v]) := by
  have e0 : T.take 2500 = T := List.take_of_length_le (by omega)
  have e5 : (T ++ [v]).take 2500 = T ++ [v] := List.take_of_length_le (by simp; omega)
  refine nb_eq (fun j => ?_) (fun j => ?_) rfl
  · rw [uI_1]
    by_cases e1 : j = 44
    · subst e1
      rw [if_pos rfl, nb_44]
      congr 1
      simp
      omega
    · rw [if_neg e1, uR_1]
      by_cases e2 : j = 41
      · subst e2; rfl
      · by_cases e : j = 45
        · subst e
          rw [nb_45, nb_45]
          have : (2500 < L.length ∨ 2500 < T.length) ↔ (2500 < L.length ∨ 2500 < (T ++ [v]).length) := by simp; omega
          simp only [this]
        · rw [nb_I ⟨e2, e1, e⟩, nb_I ⟨e2, e1, e⟩]
  · rw [uI_2, uR_21]
    by_cases e1 : j = 43
    · subst e1
      rw [if_pos rfl, nb_43, e0, e5, lf_snoc]
    · rw [if_neg e1]
      by_cases e2 : j = 40
      · subst e2; rfl
      · rw [nb_R ⟨e2, e1⟩, nb_R ⟨e2, e1⟩]
end REFB
section REFB2
variable {d : Nat} {Q : Option Value → ah_H → Prop} {h : ah_H} {q : Nat} {s : rS} {A : Nat → Nat} {F : Nat → Bool} {ns : Nat} {L T B e : List Nat}
theorem m_X11_beginNew : ae_wm d mX11_beginNew [.ref q] (rh h q s) Q = Q none (rh h q (nb (uI s 42 (nI 0)) [] [])) := by
  simp (disch := first | exact ae_isR_ref _ | exact ae_isR_null | exact ae_isR_rf _ | exact ae_cat_ref _ | exact ae_cat_int _ | exact ae_cat_null | exact ae_cat_rf _ | exact ae_nz0 | exact ae_nz1 | exact ae_fz0 | exact ae_fz1 | exact cI_na (by omega) | exact cI_ix (by omega) | exact cI_nn (by omega) | exact cI_nz (by omega) | exact cI_cp (by omega) | assumption | omega) only [s_X11_beginNew_0, s_X11_beginNew_1, s_X11_beginNew_2, s_X11_beginNew_5, s_X11_beginNew_6, s_X11_beginNew_7, s_X11_beginNew_10, s_X11_beginNew_11, s_X11_beginNew_12, s_X11_beginNew_15, s_X11_beginNew_16, s_X11_beginNew_17, s_X11_beginNew_20, e_X11_beginNew, rg_0, rg_1, rg_2, rg_3, rg_4, rg_5, rg_6, rg_7, rg_8, rg_9, rg_10, rg_11, rg_12, rg_13, rg_14, rg_15, rg_16, rg_17, rg_18, rg_19, rg_20, rg_21, rg_22, rg_23, rg_24, rg_25, rg_26, rg_27, rg_28, rg_29, rg_30, rg_31, rg_32, rg_33, rg_34, rg_35, rg_36, rg_37, rg_38, rg_39, rg_40, rg_41, rg_42, rg_43, rg_44, rg_45, rg_46, rg_47, rg_48, rg_49, rg_50, rg_51, rg_52, rp_0, rp_4, rp_5, rp_14, rp_15, rp_26, rp_29, rp_30, rp_31, rp_32, rp_33, rp_35, rp_36, rp_38, rp_39, rp_41, rp_42, rp_44, rp_45, rp_47, rp_51, rz_1, rs_1, rz_2, rs_2, rz_3, rs_3, rz_6, rzW_6, rsW_6, rz_7, rs_7, rz_8, rs_8, rz_9, rzW_9, rsW_9, rz_10, rs_10, rz_11, rs_11, rz_12, rs_12, rz_13, rs_13, rz_16, rs_16, rz_17, rs_17, rz_18, rs_18, rz_19, rs_19, rz_20, rs_20, rz_21, rzW_21, rsW_21, rz_22, rs_22, rz_23, rs_23, rz_24, rs_24, rz_25, rs_25, rz_27, rzW_27, rsW_27, rz_28, rs_28, rz_34, rs_34, rz_37, rs_37, rz_40, rs_40, rz_43, rs_43, rz_46, rs_46, rz_48, rs_48, rz_49, rs_49, rz_50, rs_50, rz_52, rs_52, uI_1, uI_2, uR_1, uR_21, uR_22, uW_1, uW_21, uW_22, uW_3, uJ_1, uJ_21, uJ_22, uJ_3, rh_2, va_rf, Bool.false_eq_true, ae_Ki, ae_Kb, ae_Kj, ae_Ka, ae_Si, ae_Sb, ae_Sj, ae_Sn, List.getElem?_cons_succ, List.getElem?_cons_zero, ↓reduceIte, if_true, if_false, nI_ofNat, true_or, or_true, false_or, or_false, true_and, and_true, false_and, and_false, or_self, and_self, not_true_eq_false, not_false_eq_true, eq_self, List.length_cons, List.length_nil, Nat.reduceAdd, Nat.reduceLT, Nat.reduceSub, List.set_cons_succ, List.set_cons_zero, Option.toList, List.nil_append, List.cons_append, cI_ltT, cI_ltF, cI_leT, cI_leF, cI_eqT, cI_eqF, cI_cl, cN_leT, cN_leF, cN_ltT, cN_ltF, cN_eqT, cN_eqF, cI_add, cI_sub, cI_m1a, cI_m1b, cI_m1c, cI_m1d, cI_m1e, cI_m1f, nb_begin]
theorem m_X11_give {v : Nat} : ae_wm d mX11_give [.ref q, .int (nI v)] (rh h q (nb s L T)) Q = Q none (rh h q (nb s (L ++ [v]) T)) := by
  by_cases h1 : 2500 ≤ L.length
  · have e1 : min L.length 2500 = 2500 := by omega
    rw [← nb_giveT v h1]
    simp (disch := first | exact ae_isR_ref _ | exact ae_isR_null | exact ae_isR_rf _ | exact ae_cat_ref _ | exact ae_cat_int _ | exact ae_cat_null | exact ae_cat_rf _ | exact ae_nz0 | exact ae_nz1 | exact ae_fz0 | exact ae_fz1 | exact cI_na (by omega) | exact cI_ix (by omega) | exact cI_nn (by omega) | exact cI_nz (by omega) | exact cI_cp (by omega) | assumption | omega) only [s_X11_give_0, s_X11_give_1, s_X11_give_4, s_X11_give_7, s_X11_give_10, s_X11_give_11, s_X11_give_12, s_X11_give_15, s_X11_give_16, s_X11_give_17, s_X11_give_20, s_X11_give_21, s_X11_give_24, s_X11_give_25, s_X11_give_26, s_X11_give_27, s_X11_give_28, s_X11_give_31, s_X11_give_32, s_X11_give_33, s_X11_give_36, e_X11_give, rg_0, rg_1, rg_2, rg_3, rg_4, rg_5, rg_6, rg_7, rg_8, rg_9, rg_10, rg_11, rg_12, rg_13, rg_14, rg_15, rg_16, rg_17, rg_18, rg_19, rg_20, rg_21, rg_22, rg_23, rg_24, rg_25, rg_26, rg_27, rg_28, rg_29, rg_30, rg_31, rg_32, rg_33, rg_34, rg_35, rg_36, rg_37, rg_38, rg_39, rg_40, rg_41, rg_42, rg_43, rg_44, rg_45, rg_46, rg_47, rg_48, rg_49, rg_50, rg_51, rg_52, rp_0, rp_4, rp_5, rp_14, rp_15, rp_26, rp_29, rp_30, rp_31, rp_32, rp_33, rp_35, rp_36, rp_38, rp_39, rp_41, rp_42, rp_44, rp_45, rp_47, rp_51, rz_1, rs_1, rz_2, rs_2, rz_3, rs_3, rz_6, rzW_6, rsW_6, rz_7, rs_7, rz_8, rs_8, rz_9, rzW_9, rsW_9, rz_10, rs_10, rz_11, rs_11, rz_12, rs_12, rz_13, rs_13, rz_16, rs_16, rz_17, rs_17, rz_18, rs_18, rz_19, rs_19, rz_20, rs_20, rz_21, rzW_21, rsW_21, rz_22, rs_22, rz_23, rs_23, rz_24, rs_24, rz_25, rs_25, rz_27, rzW_27, rsW_27, rz_28, rs_28, rz_34, rs_34, rz_37, rs_37, rz_40, rs_40, rz_43, rs_43, rz_46, rs_46, rz_48, rs_48, rz_49, rs_49, rz_50, rs_50, rz_52, rs_52, uI_1, uI_2, uR_1, uR_21, uR_22, uW_1, uW_21, uW_22, uW_3, uJ_1, uJ_21, uJ_22, uJ_3, rh_2, va_rf, Bool.false_eq_true, ae_Ki, ae_Kb, ae_Kj, ae_Ka, ae_Si, ae_Sb, ae_Sj, ae_Sn, List.getElem?_cons_succ, List.getElem?_cons_zero, ↓reduceIte, if_true, if_false, nI_ofNat, true_or, or_true, false_or, or_false, true_and, and_true, false_and, and_false, or_self, and_self, not_true_eq_false, not_false_eq_true, eq_self, List.length_cons, List.length_nil, Nat.reduceAdd, Nat.reduceLT, Nat.reduceSub, List.set_cons_succ, List.set_cons_zero, Option.toList, List.nil_append, List.cons_append, cI_ltT, cI_ltF, cI_leT, cI_leF, cI_eqT, cI_eqF, cI_cl, cN_leT, cN_leF, cN_ltT, cN_ltF, cN_eqT, cN_eqF, cI_add, cI_sub, cI_m1a, cI_m1b, cI_m1c, cI_m1d, cI_m1e, cI_m1f, nb_41, e1]
  · have e1 : min L.length 2500 = L.length := by omega
    rw [← nb_giveF v (by omega)]
    simp (disch := first | exact ae_isR_ref _ | exact ae_isR_null | exact ae_isR_rf _ | exact ae_cat_ref _ | exact ae_cat_int _ | exact ae_cat_null | exact ae_cat_rf _ | exact ae_nz0 | exact ae_nz1 | exact ae_fz0 | exact ae_fz1 | exact cI_na (by omega) | exact cI_ix (by omega) | exact cI_nn (by omega) | exact cI_nz (by omega) | exact cI_cp (by omega) | assumption | omega) only [s_X11_give_0, s_X11_give_1, s_X11_give_4, s_X11_give_7, s_X11_give_10, s_X11_give_11, s_X11_give_12, s_X11_give_15, s_X11_give_16, s_X11_give_17, s_X11_give_20, s_X11_give_21, s_X11_give_24, s_X11_give_25, s_X11_give_26, s_X11_give_27, s_X11_give_28, s_X11_give_31, s_X11_give_32, s_X11_give_33, s_X11_give_36, e_X11_give, rg_0, rg_1, rg_2, rg_3, rg_4, rg_5, rg_6, rg_7, rg_8, rg_9, rg_10, rg_11, rg_12, rg_13, rg_14, rg_15, rg_16, rg_17, rg_18, rg_19, rg_20, rg_21, rg_22, rg_23, rg_24, rg_25, rg_26, rg_27, rg_28, rg_29, rg_30, rg_31, rg_32, rg_33, rg_34, rg_35, rg_36, rg_37, rg_38, rg_39, rg_40, rg_41, rg_42, rg_43, rg_44, rg_45, rg_46, rg_47, rg_48, rg_49, rg_50, rg_51, rg_52, rp_0, rp_4, rp_5, rp_14, rp_15, rp_26, rp_29, rp_30, rp_31, rp_32, rp_33, rp_35, rp_36, rp_38, rp_39, rp_41, rp_42, rp_44, rp_45, rp_47, rp_51, rz_1, rs_1, rz_2, rs_2, rz_3, rs_3, rz_6, rzW_6, rsW_6, rz_7, rs_7, rz_8, rs_8, rz_9, rzW_9, rsW_9, rz_10, rs_10, rz_11, rs_11, rz_12, rs_12, rz_13, rs_13, rz_16, rs_16, rz_17, rs_17, rz_18, rs_18, rz_19, rs_19, rz_20, rs_20, rz_21, rzW_21, rsW_21, rz_22, rs_22, rz_23, rs_23, rz_24, rs_24, rz_25, rs_25, rz_27, rzW_27, rsW_27, rz_28, rs_28, rz_34, rs_34, rz_37, rs_37, rz_40, rs_40, rz_43, rs_43, rz_46, rs_46, rz_48, rs_48, rz_49, rs_49, rz_50, rs_50, rz_52, rs_52, uI_1, uI_2, uR_1, uR_21, uR_22, uW_1, uW_21, uW_22, uW_3, uJ_1, uJ_21, uJ_22, uJ_3, rh_2, va_rf, Bool.false_eq_true, ae_Ki, ae_Kb, ae_Kj, ae_Ka, ae_Si, ae_Sb, ae_Sj, ae_Sn, List.getElem?_cons_succ, List.getElem?_cons_zero, ↓reduceIte, if_true, if_false, nI_ofNat, true_or, or_true, false_or, or_false, true_and, and_true, false_and, and_false, or_self, and_self, not_true_eq_false, not_false_eq_true, eq_self, List.length_cons, List.length_nil, Nat.reduceAdd, Nat.reduceLT, Nat.reduceSub, List.set_cons_succ, List.set_cons_zero, Option.toList, List.nil_append, List.cons_append, cI_ltT, cI_ltF, cI_leT, cI_leF, cI_eqT, cI_eqF, cI_cl, cN_leT, cN_leF, cN_ltT, cN_ltF, cN_eqT, cN_eqF, cI_add, cI_sub, cI_m1a, cI_m1b, cI_m1c, cI_m1d, cI_m1e, cI_m1f, nb_41, nb_40, e1]
theorem m_X11_giveAnswer {v : Nat} : ae_wm d mX11_giveAnswer [.ref q, .int (nI v)] (rh h q (nb s L T)) Q = Q none (rh h q (nb s L (T ++ [v]))) := by
  by_cases h1 : 2500 ≤ T.length
  · have e1 : min T.length 2500 = 2500 := by omega
    rw [← nb_giveAT v h1]
    simp (disch := first | exact ae_isR_ref _ | exact ae_isR_null | exact ae_isR_rf _ | exact ae_cat_ref _ | exact ae_cat_int _ | exact ae_cat_null | exact ae_cat_rf _ | exact ae_nz0 | exact ae_nz1 | exact ae_fz0 | exact ae_fz1 | exact cI_na (by omega) | exact cI_ix (by omega) | exact cI_nn (by omega) | exact cI_nz (by omega) | exact cI_cp (by omega) | assumption | omega) only [s_X11_giveAnswer_0, s_X11_giveAnswer_1, s_X11_giveAnswer_4, s_X11_giveAnswer_7, s_X11_giveAnswer_10, s_X11_giveAnswer_11, s_X11_giveAnswer_12, s_X11_giveAnswer_15, s_X11_giveAnswer_16, s_X11_giveAnswer_17, s_X11_giveAnswer_20, s_X11_giveAnswer_21, s_X11_giveAnswer_24, s_X11_giveAnswer_25, s_X11_giveAnswer_26, s_X11_giveAnswer_27, s_X11_giveAnswer_28, s_X11_giveAnswer_31, s_X11_giveAnswer_32, s_X11_giveAnswer_33, s_X11_giveAnswer_36, e_X11_giveAnswer, rg_0, rg_1, rg_2, rg_3, rg_4, rg_5, rg_6, rg_7, rg_8, rg_9, rg_10, rg_11, rg_12, rg_13, rg_14, rg_15, rg_16, rg_17, rg_18, rg_19, rg_20, rg_21, rg_22, rg_23, rg_24, rg_25, rg_26, rg_27, rg_28, rg_29, rg_30, rg_31, rg_32, rg_33, rg_34, rg_35, rg_36, rg_37, rg_38, rg_39, rg_40, rg_41, rg_42, rg_43, rg_44, rg_45, rg_46, rg_47, rg_48, rg_49, rg_50, rg_51, rg_52, rp_0, rp_4, rp_5, rp_14, rp_15, rp_26, rp_29, rp_30, rp_31, rp_32, rp_33, rp_35, rp_36, rp_38, rp_39, rp_41, rp_42, rp_44, rp_45, rp_47, rp_51, rz_1, rs_1, rz_2, rs_2, rz_3, rs_3, rz_6, rzW_6, rsW_6, rz_7, rs_7, rz_8, rs_8, rz_9, rzW_9, rsW_9, rz_10, rs_10, rz_11, rs_11, rz_12, rs_12, rz_13, rs_13, rz_16, rs_16, rz_17, rs_17, rz_18, rs_18, rz_19, rs_19, rz_20, rs_20, rz_21, rzW_21, rsW_21, rz_22, rs_22, rz_23, rs_23, rz_24, rs_24, rz_25, rs_25, rz_27, rzW_27, rsW_27, rz_28, rs_28, rz_34, rs_34, rz_37, rs_37, rz_40, rs_40, rz_43, rs_43, rz_46, rs_46, rz_48, rs_48, rz_49, rs_49, rz_50, rs_50, rz_52, rs_52, uI_1, uI_2, uR_1, uR_21, uR_22, uW_1, uW_21, uW_22, uW_3, uJ_1, uJ_21, uJ_22, uJ_3, rh_2, va_rf, Bool.false_eq_true, ae_Ki, ae_Kb, ae_Kj, ae_Ka, ae_Si, ae_Sb, ae_Sj, ae_Sn, List.getElem?_cons_succ, List.getElem?_cons_zero, ↓reduceIte, if_true, if_false, nI_ofNat, true_or, or_true, false_or, or_false, true_and, and_true, false_and, and_false, or_self, and_self, not_true_eq_false, not_false_eq_true, eq_self, List.length_cons, List.length_nil, Nat.reduceAdd, Nat.reduceLT, Nat.reduceSub, List.set_cons_succ, List.set_cons_zero, Option.toList, List.nil_append, List.cons_append, cI_ltT, cI_ltF, cI_leT, cI_leF, cI_eqT, cI_eqF, cI_cl, cN_leT, cN_leF, cN_ltT, cN_ltF, cN_eqT, cN_eqF, cI_add, cI_sub, cI_m1a, cI_m1b, cI_m1c, cI_m1d, cI_m1e, cI_m1f, nb_44, e1]
  · have e1 : min T.length 2500 = T.length := by omega
    rw [← nb_giveAF v (by omega)]
    simp (disch := first | exact ae_isR_ref _ | exact ae_isR_null | exact ae_isR_rf _ | exact ae_cat_ref _ | exact ae_cat_int _ | exact ae_cat_null | exact ae_cat_rf _ | exact ae_nz0 | exact ae_nz1 | exact ae_fz0 | exact ae_fz1 | exact cI_na (by omega) | exact cI_ix (by omega) | exact cI_nn (by omega) | exact cI_nz (by omega) | exact cI_cp (by omega) | assumption | omega) only [s_X11_giveAnswer_0, s_X11_giveAnswer_1, s_X11_giveAnswer_4, s_X11_giveAnswer_7, s_X11_giveAnswer_10, s_X11_giveAnswer_11, s_X11_giveAnswer_12, s_X11_giveAnswer_15, s_X11_giveAnswer_16, s_X11_giveAnswer_17, s_X11_giveAnswer_20, s_X11_giveAnswer_21, s_X11_giveAnswer_24, s_X11_giveAnswer_25, s_X11_giveAnswer_26, s_X11_giveAnswer_27, s_X11_giveAnswer_28, s_X11_giveAnswer_31, s_X11_giveAnswer_32, s_X11_giveAnswer_33, s_X11_giveAnswer_36, e_X11_giveAnswer, rg_0, rg_1, rg_2, rg_3, rg_4, rg_5, rg_6, rg_7, rg_8, rg_9, rg_10, rg_11, rg_12, rg_13, rg_14, rg_15, rg_16, rg_17, rg_18, rg_19, rg_20, rg_21, rg_22, rg_23, rg_24, rg_25, rg_26, rg_27, rg_28, rg_29, rg_30, rg_31, rg_32, rg_33, rg_34, rg_35, rg_36, rg_37, rg_38, rg_39, rg_40, rg_41, rg_42, rg_43, rg_44, rg_45, rg_46, rg_47, rg_48, rg_49, rg_50, rg_51, rg_52, rp_0, rp_4, rp_5, rp_14, rp_15, rp_26, rp_29, rp_30, rp_31, rp_32, rp_33, rp_35, rp_36, rp_38, rp_39, rp_41, rp_42, rp_44, rp_45, rp_47, rp_51, rz_1, rs_1, rz_2, rs_2, rz_3, rs_3, rz_6, rzW_6, rsW_6, rz_7, rs_7, rz_8, rs_8, rz_9, rzW_9, rsW_9, rz_10, rs_10, rz_11, rs_11, rz_12, rs_12, rz_13, rs_13, rz_16, rs_16, rz_17, rs_17, rz_18, rs_18, rz_19, rs_19, rz_20, rs_20, rz_21, rzW_21, rsW_21, rz_22, rs_22, rz_23, rs_23, rz_24, rs_24, rz_25, rs_25, rz_27, rzW_27, rsW_27, rz_28, rs_28, rz_34, rs_34, rz_37, rs_37, rz_40, rs_40, rz_43, rs_43, rz_46, rs_46, rz_48, rs_48, rz_49, rs_49, rz_50, rs_50, rz_52, rs_52, uI_1, uI_2, uR_1, uR_21, uR_22, uW_1, uW_21, uW_22, uW_3, uJ_1, uJ_21, uJ_22, uJ_3, rh_2, va_rf, Bool.false_eq_true, ae_Ki, ae_Kb, ae_Kj, ae_Ka, ae_Si, ae_Sb, ae_Sj, ae_Sn, List.getElem?_cons_succ, List.getElem?_cons_zero, ↓reduceIte, if_true, if_false, nI_ofNat, true_or, or_true, false_or, or_false, true_and, and_true, false_and, and_false, or_self, and_self, not_true_eq_false, not_false_eq_true, eq_self, List.length_cons, List.length_nil, Nat.reduceAdd, Nat.reduceLT, Nat.reduceSub, List.set_cons_succ, List.set_cons_zero, Option.toList, List.nil_append, List.cons_append, cI_ltT, cI_ltF, cI_leT, cI_leF, cI_eqT, cI_eqF, cI_cl, cN_leT, cN_leF, cN_ltT, cN_ltF, cN_eqT, cN_eqF, cI_add, cI_sub, cI_m1a, cI_m1b, cI_m1c, cI_m1d, cI_m1e, cI_m1f, nb_44, nb_43, e1]
end REFB2
