/-! NarrowSolverModel: layBranch -/
def dcr : Nat → Int32
  | 0 => -1
  | c + 1 => nI c
theorem dcr_s (c : Nat) : dcr (c + 1) = nI c := rfl
theorem dcr_z : dcr 0 = -1 := rfl
theorem dcr_of (c : Nat) : nI c + (-1) = dcr c := by
  cases c with
  | zero => decide +kernel
  | succ c => rw [cI_dec (by omega)]; rfl
/-- how many children come before c -/
def cbf (A : Nat → Nat) (rl : mR) (p : List Nat) (k : Nat) (S : Int64) (c : Nat) : Nat := (chs A rl c p k S).length
theorem chs_succ {A : Nat → Nat} {rl : mR} {p : List Nat} {k c : Nat} {S : Int64} : chs A rl (c + 1) p k S = chs A rl c p k S ++ (if wia A rl p k S c ≠ 0 then [c] else []) := by
  unfold chs
  rw [List.range_succ, List.filter_append]
  congr 1
  by_cases e : wia A rl p k S c ≠ 0
  · simp [e]
  · simp [e]
theorem cbf_T {A : Nat → Nat} {rl : mR} {p : List Nat} {k c : Nat} {S : Int64} (h : wia A rl p k S c ≠ 0) : cbf A rl p k S (c + 1) = cbf A rl p k S c + 1 := by
  unfold cbf
  rw [chs_succ, if_pos h]
  simp
theorem cbf_F {A : Nat → Nat} {rl : mR} {p : List Nat} {k c : Nat} {S : Int64} (h : wia A rl p k S c = 0) : cbf A rl p k S (c + 1) = cbf A rl p k S c := by
  unfold cbf
  rw [chs_succ, if_neg (by simp [h])]
  simp
theorem cbf_le {A : Nat → Nat} {rl : mR} {p : List Nat} {k : Nat} {S : Int64} : ∀ c, cbf A rl p k S c ≤ c := by
  intro c
  unfold cbf chs
  exact Nat.le_trans (List.length_filter_le _ _) (by simp)
theorem cbf_mono {A : Nat → Nat} {rl : mR} {p : List Nat} {k : Nat} {S : Int64} : ∀ (t c : Nat), cbf A rl p k S c ≤ cbf A rl p k S (c + t) := by
  intro t
  induction t with
  | zero => intro c; exact Nat.le_refl _
  | succ t ih =>
    intro c
    have h1 := ih c
    by_cases e : wia A rl p k S (c + t) = 0
    · have := cbf_F e; rw [show c + (t + 1) = c + t + 1 by omega]; omega
    · have := cbf_T e; rw [show c + (t + 1) = c + t + 1 by omega]; omega
/-- the child in its order -/
theorem chs_at {A : Nat → Nat} {rl : mR} {p : List Nat} {k c ns : Nat} {S : Int64} (h : wia A rl p k S c ≠ 0) (hc : c < ns) : (chs A rl ns p k S).getD (cbf A rl p k S c) 0 = c := by
  obtain ⟨t, rfl⟩ : ∃ t, ns = c + 1 + t := ⟨ns - c - 1, by omega⟩
  clear hc
  have h0 : (chs A rl (c + 1) p k S)[cbf A rl p k S c]? = some c := by
    rw [chs_succ, if_pos h]
    unfold cbf
    rw [List.getElem?_append_right (Nat.le_refl _), Nat.sub_self]
    rfl
  have : ∀ t, (chs A rl (c + 1 + t) p k S)[cbf A rl p k S c]? = some c := by
    intro t
    induction t with
    | zero => exact h0
    | succ t ih =>
      rw [show c + 1 + (t + 1) = c + 1 + t + 1 by omega, chs_succ]
      obtain ⟨hl, _⟩ := List.getElem?_eq_some_iff.mp ih
      rw [List.getElem?_append_left hl]
      exact ih
  rw [List.getD_eq_getElem?_getD, this t]
  rfl
/-- an entry of the stack -/
def rSk (s : rS) (i : Nat) (x : List Nat × Int64) (par : Int32) (ord : Nat) : Prop := rowl x.1 (s.2.2.1 9 i) ∧ s.2.1 10 i = nI x.1.length ∧ s.2.2.2 i = x.2 ∧ s.2.1 12 i = par ∧ s.2.1 13 i = nI ord
/-- the stack below m is the same -/
def blw (m : Nat) (s s2 : rS) : Prop := ∀ i, i < m → s2.2.2.1 9 i = s.2.2.1 9 i ∧ s2.2.1 10 i = s.2.1 10 i ∧ s2.2.2.2 i = s.2.2.2 i ∧ s2.2.1 12 i = s.2.1 12 i ∧ s2.2.1 13 i = s.2.1 13 i
theorem blw_refl (m : Nat) (s : rS) : blw m s s := fun _ _ => ⟨rfl, rfl, rfl, rfl, rfl⟩
theorem blw_trans {m : Nat} {s s2 s3 : rS} (h1 : blw m s s2) (h2 : blw m s2 s3) : blw m s s3 := fun i hi => by
  obtain ⟨a1, a2, a3, a4, a5⟩ := h1 i hi
  obtain ⟨b1, b2, b3, b4, b5⟩ := h2 i hi
  exact ⟨b1.trans a1, b2.trans a2, b3.trans a3, b4.trans a4, b5.trans a5⟩
theorem blw_mono {m m2 : Nat} {s s2 : rS} (h : blw m s s2) (h2 : m2 ≤ m) : blw m2 s s2 := fun i hi => h i (by omega)
theorem rSk_blw {m i : Nat} {s s2 : rS} {x : List Nat × Int64} {par : Int32} {ord : Nat} (h : blw m s s2) (hi : i < m) (hx : rSk s i x par ord) : rSk s2 i x par ord := by
  obtain ⟨a1, a2, a3, a4, a5⟩ := h i hi
  obtain ⟨b1, b2, b3, b4, b5⟩ := hx
  exact ⟨by rw [a1]; exact b1, a2.trans b2, a3.trans b3, a4.trans b4, a5.trans b5⟩
/-- what the tree is made of -/
def rU (s : rS) (A : Nat → Nat) (ns : Nat) (rl : mR) : Prop := arl A ns (s.2.1 2) ∧ rRules s rl ∧ s.1 0 = nI ns
def FI : List Nat := [14, 15, 51]
def FR : List Nat := [10, 12, 13, 16, 17, 18, 19, 20, 49, 50, 52]
def FW : List Nat := [9]
theorem rU_frm {s s2 : rS} {A : Nat → Nat} {ns : Nat} {rl : mR} (h : frm s s2 FI FR FW) (hu : rU s A ns rl) : rU s2 A ns rl := by
  obtain ⟨h1, ⟨h2, h3, h4⟩, h5⟩ := hu
  obtain ⟨f1, f2, f3⟩ := h
  refine ⟨by rw [f2 2 (by decide)]; exact h1, ⟨by rw [f1 5 (by decide)]; exact h2, h3, fun r hr => ?_⟩, by rw [f1 0 (by decide)]; exact h5⟩
  rw [f3 6 (by decide), f2 7 (by decide), f2 8 (by decide)]
  exact h4 r hr
section REFX
variable {d : Nat} {Q : Option Value → ah_H → Prop} {h : ah_H} {q : Nat} {s : rS} {A : Nat → Nat} {ns : Nat} {p : List Nat} {rl : mR} {S : Int64}
theorem m_X11_lb_count {k n : Nat} (hu : rU s A ns rl) (hg : rgd ns A rl) (hp : rPat s p) (hS : sgd A rl p S) (hk : k < hol p) (hk2 : k < 2147483648) {l8 l9 l10 : Option Value} : ∀ (m c : Nat), c + m = ns → ae_wp (d + 4) mX11_layBranch 6 [some (.ref q), some (.int (nI n)), some (.int (nI k)), some (.int (nI p.length)), some (.long S), none, some (.int (nI (cbf A rl p k S c))), some (.int (nI c)), l8, l9, l10] [] (rh h q s) Q = ae_wp (d + 4) mX11_layBranch 51 [some (.ref q), some (.int (nI n)), some (.int (nI k)), some (.int (nI p.length)), some (.long S), none, some (.int (nI (cbf A rl p k S ns))), some (.int (nI ns)), l8, l9, l10] [] (rh h q s) Q := by
  obtain ⟨hA, hr, hn⟩ := hu
  have hns := hA.1
  intro m
  induction m with
  | zero =>
    intro c hc
    have e : c = ns := by omega
    subst e
    simp (disch := first | exact ae_isR_ref _ | exact ae_isR_null | exact ae_isR_rf _ | exact ae_cat_ref _ | exact ae_cat_int _ | exact ae_cat_null | exact ae_cat_rf _ | exact ae_nz0 | exact ae_nz1 | exact ae_fz0 | exact ae_fz1 | exact cI_na (by omega) | exact cI_ix (by omega) | exact cI_nn (by omega) | exact cI_nz (by omega) | exact cI_cp (by omega) | assumption | omega) only [s_X11_layBranch_6, s_X11_layBranch_8, s_X11_layBranch_9, s_X11_layBranch_12, rg_0, rg_1, rg_2, rg_3, rg_4, rg_5, rg_6, rg_7, rg_8, rg_9, rg_10, rg_11, rg_12, rg_13, rg_14, rg_15, rg_16, rg_17, rg_18, rg_19, rg_20, rg_21, rg_22, rg_23, rg_24, rg_25, rg_26, rg_27, rg_28, rg_29, rg_30, rg_31, rg_32, rg_33, rg_34, rg_35, rg_36, rg_37, rg_38, rg_39, rg_40, rg_41, rg_42, rg_43, rg_44, rg_45, rg_46, rg_47, rg_48, rg_49, rg_50, rg_51, rg_52, rp_0, rp_4, rp_5, rp_14, rp_15, rp_26, rp_29, rp_30, rp_31, rp_32, rp_33, rp_35, rp_36, rp_38, rp_39, rp_41, rp_42, rp_44, rp_45, rp_47, rp_51, rz_1, rs_1, rz_2, rs_2, rz_3, rs_3, rz_6, rzW_6, rsW_6, rz_7, rs_7, rz_8, rs_8, rz_9, rzW_9, rsW_9, rz_10, rs_10, rz_11, rs_11, rz_12, rs_12, rz_13, rs_13, rz_16, rs_16, rz_17, rs_17, rz_18, rs_18, rz_19, rs_19, rz_20, rs_20, rz_21, rzW_21, rsW_21, rz_22, rs_22, rz_23, rs_23, rz_24, rs_24, rz_25, rs_25, rz_27, rzW_27, rsW_27, rz_28, rs_28, rz_34, rs_34, rz_37, rs_37, rz_40, rs_40, rz_43, rs_43, rz_46, rs_46, rz_48, rs_48, rz_49, rs_49, rz_50, rs_50, rz_52, rs_52, uI_1, uI_2, uR_1, uR_21, uR_22, uW_1, uW_21, uW_22, uW_3, uJ_1, uJ_21, uJ_22, uJ_3, rh_2, va_rf, Bool.false_eq_true, ae_Ki, ae_Kb, ae_Kj, ae_Ka, ae_Si, ae_Sb, ae_Sj, ae_Sn, List.getElem?_cons_succ, List.getElem?_cons_zero, ↓reduceIte, if_true, if_false, nI_ofNat, true_or, or_true, false_or, or_false, true_and, and_true, false_and, and_false, or_self, and_self, not_true_eq_false, not_false_eq_true, eq_self, List.length_cons, List.length_nil, Nat.reduceAdd, Nat.reduceLT, Nat.reduceSub, List.set_cons_succ, List.set_cons_zero, Option.toList, List.nil_append, List.cons_append, cI_ltT, cI_ltF, cI_leT, cI_leF, cI_eqT, cI_eqF, cI_cl, cN_leT, cN_leF, cN_ltT, cN_ltF, cN_eqT, cN_eqF, cI_add, cI_sub, cI_m1a, cI_m1b, cI_m1c, cI_m1d, cI_m1e, cI_m1f, hn]
  | succ m ih =>
    intro c hc
    have g := fun Q => m_X11_withAt (d := d) (Q := Q) (h := h) (q := q) (c := c) hA hr hg hp hS hk hk2 (by omega)
    have hb := cbf_le (A := A) (rl := rl) (p := p) (k := k) (S := S) c
    refine Eq.trans ?_ (s_X11_layBranch_48.trans (ih (c + 1) (by omega)))
    by_cases e : wia A rl p k S c = 0
    · rw [cbf_F e]
      simp (disch := first | exact ae_isR_ref _ | exact ae_isR_null | exact ae_isR_rf _ | exact ae_cat_ref _ | exact ae_cat_int _ | exact ae_cat_null | exact ae_cat_rf _ | exact ae_nz0 | exact ae_nz1 | exact ae_fz0 | exact ae_fz1 | exact cI_na (by omega) | exact cI_ix (by omega) | exact cI_nn (by omega) | exact cI_nz (by omega) | exact cI_cp (by omega) | assumption | omega) only [s_X11_layBranch_6, s_X11_layBranch_8, s_X11_layBranch_9, s_X11_layBranch_12, s_X11_layBranch_15, s_X11_layBranch_16, s_X11_layBranch_17, s_X11_layBranch_20, s_X11_layBranch_21, s_X11_layBranch_22, s_X11_layBranch_24, s_X11_layBranch_26 rl_0, s_X11_layBranch_29, s_X11_layBranch_30, s_X11_layBranch_31, s_X11_layBranch_34, s_X11_layBranch_36, s_X11_layBranch_37, s_X11_layBranch_38, s_X11_layBranch_41, s_X11_layBranch_43, s_X11_layBranch_45, rg_0, rg_1, rg_2, rg_3, rg_4, rg_5, rg_6, rg_7, rg_8, rg_9, rg_10, rg_11, rg_12, rg_13, rg_14, rg_15, rg_16, rg_17, rg_18, rg_19, rg_20, rg_21, rg_22, rg_23, rg_24, rg_25, rg_26, rg_27, rg_28, rg_29, rg_30, rg_31, rg_32, rg_33, rg_34, rg_35, rg_36, rg_37, rg_38, rg_39, rg_40, rg_41, rg_42, rg_43, rg_44, rg_45, rg_46, rg_47, rg_48, rg_49, rg_50, rg_51, rg_52, rp_0, rp_4, rp_5, rp_14, rp_15, rp_26, rp_29, rp_30, rp_31, rp_32, rp_33, rp_35, rp_36, rp_38, rp_39, rp_41, rp_42, rp_44, rp_45, rp_47, rp_51, rz_1, rs_1, rz_2, rs_2, rz_3, rs_3, rz_6, rzW_6, rsW_6, rz_7, rs_7, rz_8, rs_8, rz_9, rzW_9, rsW_9, rz_10, rs_10, rz_11, rs_11, rz_12, rs_12, rz_13, rs_13, rz_16, rs_16, rz_17, rs_17, rz_18, rs_18, rz_19, rs_19, rz_20, rs_20, rz_21, rzW_21, rsW_21, rz_22, rs_22, rz_23, rs_23, rz_24, rs_24, rz_25, rs_25, rz_27, rzW_27, rsW_27, rz_28, rs_28, rz_34, rs_34, rz_37, rs_37, rz_40, rs_40, rz_43, rs_43, rz_46, rs_46, rz_48, rs_48, rz_49, rs_49, rz_50, rs_50, rz_52, rs_52, uI_1, uI_2, uR_1, uR_21, uR_22, uW_1, uW_21, uW_22, uW_3, uJ_1, uJ_21, uJ_22, uJ_3, rh_2, va_rf, Bool.false_eq_true, ae_Ki, ae_Kb, ae_Kj, ae_Ka, ae_Si, ae_Sb, ae_Sj, ae_Sn, List.getElem?_cons_succ, List.getElem?_cons_zero, ↓reduceIte, if_true, if_false, nI_ofNat, true_or, or_true, false_or, or_false, true_and, and_true, false_and, and_false, or_self, and_self, not_true_eq_false, not_false_eq_true, eq_self, List.length_cons, List.length_nil, Nat.reduceAdd, Nat.reduceLT, Nat.reduceSub, List.set_cons_succ, List.set_cons_zero, Option.toList, List.nil_append, List.cons_append, cI_ltT, cI_ltF, cI_leT, cI_leF, cI_eqT, cI_eqF, cI_cl, cN_leT, cN_leF, cN_ltT, cN_ltF, cN_eqT, cN_eqF, cI_add, cI_sub, cI_m1a, cI_m1b, cI_m1c, cI_m1d, cI_m1e, cI_m1f, hn, g, e, cL_eq]
    · rw [cbf_T e]
      simp (disch := first | exact ae_isR_ref _ | exact ae_isR_null | exact ae_isR_rf _ | exact ae_cat_ref _ | exact ae_cat_int _ | exact ae_cat_null | exact ae_cat_rf _ | exact ae_nz0 | exact ae_nz1 | exact ae_fz0 | exact ae_fz1 | exact cI_na (by omega) | exact cI_ix (by omega) | exact cI_nn (by omega) | exact cI_nz (by omega) | exact cI_cp (by omega) | assumption | omega) only [s_X11_layBranch_6, s_X11_layBranch_8, s_X11_layBranch_9, s_X11_layBranch_12, s_X11_layBranch_15, s_X11_layBranch_16, s_X11_layBranch_17, s_X11_layBranch_20, s_X11_layBranch_21, s_X11_layBranch_22, s_X11_layBranch_24, s_X11_layBranch_26 rl_0, s_X11_layBranch_29, s_X11_layBranch_30, s_X11_layBranch_31, s_X11_layBranch_34, s_X11_layBranch_36, s_X11_layBranch_37, s_X11_layBranch_38, s_X11_layBranch_41, s_X11_layBranch_43, s_X11_layBranch_45, rg_0, rg_1, rg_2, rg_3, rg_4, rg_5, rg_6, rg_7, rg_8, rg_9, rg_10, rg_11, rg_12, rg_13, rg_14, rg_15, rg_16, rg_17, rg_18, rg_19, rg_20, rg_21, rg_22, rg_23, rg_24, rg_25, rg_26, rg_27, rg_28, rg_29, rg_30, rg_31, rg_32, rg_33, rg_34, rg_35, rg_36, rg_37, rg_38, rg_39, rg_40, rg_41, rg_42, rg_43, rg_44, rg_45, rg_46, rg_47, rg_48, rg_49, rg_50, rg_51, rg_52, rp_0, rp_4, rp_5, rp_14, rp_15, rp_26, rp_29, rp_30, rp_31, rp_32, rp_33, rp_35, rp_36, rp_38, rp_39, rp_41, rp_42, rp_44, rp_45, rp_47, rp_51, rz_1, rs_1, rz_2, rs_2, rz_3, rs_3, rz_6, rzW_6, rsW_6, rz_7, rs_7, rz_8, rs_8, rz_9, rzW_9, rsW_9, rz_10, rs_10, rz_11, rs_11, rz_12, rs_12, rz_13, rs_13, rz_16, rs_16, rz_17, rs_17, rz_18, rs_18, rz_19, rs_19, rz_20, rs_20, rz_21, rzW_21, rsW_21, rz_22, rs_22, rz_23, rs_23, rz_24, rs_24, rz_25, rs_25, rz_27, rzW_27, rsW_27, rz_28, rs_28, rz_34, rs_34, rz_37, rs_37, rz_40, rs_40, rz_43, rs_43, rz_46, rs_46, rz_48, rs_48, rz_49, rs_49, rz_50, rs_50, rz_52, rs_52, uI_1, uI_2, uR_1, uR_21, uR_22, uW_1, uW_21, uW_22, uW_3, uJ_1, uJ_21, uJ_22, uJ_3, rh_2, va_rf, Bool.false_eq_true, ae_Ki, ae_Kb, ae_Kj, ae_Ka, ae_Si, ae_Sb, ae_Sj, ae_Sn, List.getElem?_cons_succ, List.getElem?_cons_zero, ↓reduceIte, if_true, if_false, nI_ofNat, true_or, or_true, false_or, or_false, true_and, and_true, false_and, and_false, or_self, and_self, not_true_eq_false, not_false_eq_true, eq_self, List.length_cons, List.length_nil, Nat.reduceAdd, Nat.reduceLT, Nat.reduceSub, List.set_cons_succ, List.set_cons_zero, Option.toList, List.nil_append, List.cons_append, cI_ltT, cI_ltF, cI_leT, cI_leF, cI_eqT, cI_eqF, cI_cl, cN_leT, cN_leF, cN_ltT, cN_ltF, cN_eqT, cN_eqF, cI_add, cI_sub, cI_m1a, cI_m1b, cI_m1c, cI_m1d, cI_m1e, cI_m1f, hn, g, e, cL_eq]
theorem m_X11_lb_push {k n m : Nat} (hu : rU s A ns rl) (hg : rgd ns A rl) (hp : rPat s p) (hpl : p.length ≤ 120) (hS : sgd A rl p S) (hx : hix p k = some (jof p k)) (hk : k < hol p) (hm : m + cbf A rl p k S ns ≤ 64) {l6 : Option Value} : ∀ (c : Nat) (s2 : rS) (l9 l10 : Option Value), c ≤ ns → frm s s2 [14] [10, 12, 13, 18] [9] → s2.1 14 = nI (m + cbf A rl p k S ns - cbf A rl p k S c) → ∃ s3, (∀ Q, ae_wp (d + 4) mX11_layBranch 71 [some (.ref q), some (.int (nI n)), some (.int (nI k)), some (.int (nI p.length)), some (.long S), none, l6, some (.int (nI (cbf A rl p k S c))), some (.int (dcr c)), l9, l10] [] (rh h q s2) Q = Q none (rh h q s3)) ∧ frm s2 s3 [14] [10, 12, 13] [9] ∧ s3.1 14 = nI (m + cbf A rl p k S ns) ∧ blw (m + cbf A rl p k S ns - cbf A rl p k S c) s2 s3 ∧ ∀ o, o < cbf A rl p k S c → rSk s3 (m + cbf A rl p k S ns - 1 - o) (kid A rl p k S ((chs A rl ns p k S).getD o 0)) (nI n) o := by
  have hns := hu.1.1
  have hhp := hol_le p
  intro c
  induction c with
  | zero =>
    intro s2 l9 l10 hc hf h14
    have e0 : cbf A rl p k S 0 = 0 := rfl
    rw [e0, Nat.sub_zero] at h14
    refine ⟨s2, fun Q => ?_, frm_refl _ _ _ _, h14, blw_refl _ _, fun o ho => by rw [e0] at ho; omega⟩
    simp (disch := first | exact ae_isR_ref _ | exact ae_isR_null | exact ae_isR_rf _ | exact ae_cat_ref _ | exact ae_cat_int _ | exact ae_cat_null | exact ae_cat_rf _ | exact ae_nz0 | exact ae_nz1 | exact ae_fz0 | exact ae_fz1 | exact cI_na (by omega) | exact cI_ix (by omega) | exact cI_nn (by omega) | exact cI_nz (by omega) | exact cI_cp (by omega) | assumption | omega) only [s_X11_layBranch_71, s_X11_layBranch_73, s_X11_layBranch_149, rg_0, rg_1, rg_2, rg_3, rg_4, rg_5, rg_6, rg_7, rg_8, rg_9, rg_10, rg_11, rg_12, rg_13, rg_14, rg_15, rg_16, rg_17, rg_18, rg_19, rg_20, rg_21, rg_22, rg_23, rg_24, rg_25, rg_26, rg_27, rg_28, rg_29, rg_30, rg_31, rg_32, rg_33, rg_34, rg_35, rg_36, rg_37, rg_38, rg_39, rg_40, rg_41, rg_42, rg_43, rg_44, rg_45, rg_46, rg_47, rg_48, rg_49, rg_50, rg_51, rg_52, rp_0, rp_4, rp_5, rp_14, rp_15, rp_26, rp_29, rp_30, rp_31, rp_32, rp_33, rp_35, rp_36, rp_38, rp_39, rp_41, rp_42, rp_44, rp_45, rp_47, rp_51, rz_1, rs_1, rz_2, rs_2, rz_3, rs_3, rz_6, rzW_6, rsW_6, rz_7, rs_7, rz_8, rs_8, rz_9, rzW_9, rsW_9, rz_10, rs_10, rz_11, rs_11, rz_12, rs_12, rz_13, rs_13, rz_16, rs_16, rz_17, rs_17, rz_18, rs_18, rz_19, rs_19, rz_20, rs_20, rz_21, rzW_21, rsW_21, rz_22, rs_22, rz_23, rs_23, rz_24, rs_24, rz_25, rs_25, rz_27, rzW_27, rsW_27, rz_28, rs_28, rz_34, rs_34, rz_37, rs_37, rz_40, rs_40, rz_43, rs_43, rz_46, rs_46, rz_48, rs_48, rz_49, rs_49, rz_50, rs_50, rz_52, rs_52, uI_1, uI_2, uR_1, uR_21, uR_22, uW_1, uW_21, uW_22, uW_3, uJ_1, uJ_21, uJ_22, uJ_3, rh_2, va_rf, Bool.false_eq_true, ae_Ki, ae_Kb, ae_Kj, ae_Ka, ae_Si, ae_Sb, ae_Sj, ae_Sn, List.getElem?_cons_succ, List.getElem?_cons_zero, ↓reduceIte, if_true, if_false, nI_ofNat, true_or, or_true, false_or, or_false, true_and, and_true, false_and, and_false, or_self, and_self, not_true_eq_false, not_false_eq_true, eq_self, List.length_cons, List.length_nil, Nat.reduceAdd, Nat.reduceLT, Nat.reduceSub, List.set_cons_succ, List.set_cons_zero, Option.toList, List.nil_append, List.cons_append, cI_ltT, cI_ltF, cI_leT, cI_leF, cI_eqT, cI_eqF, cI_cl, cN_leT, cN_leF, cN_ltT, cN_ltF, cN_eqT, cN_eqF, cI_add, cI_sub, cI_m1a, cI_m1b, cI_m1c, cI_m1d, cI_m1e, cI_m1f, dcr_z, cI_m1g]
  | succ c ih =>
    intro s2 l9 l10 hc hf h14
    have hf2 := frm_mono (I2 := FI) (R2 := FR) (W2 := FW) hf (by decide) (by decide) (by decide)
    have hu2 := rU_frm hf2 hu
    have hp2 : rPat s2 p := by
      unfold rPat
      rw [hf.2.1 52 (by decide)]
      exact hp
    have g := fun Q => m_X11_withAt (d := d) (Q := Q) (h := h) (q := q) (s := s2) (c := c) hu2.1 hu2.2.1 hg hp2 hS hk (by omega) (by omega)
    have hb := cbf_le (A := A) (rl := rl) (p := p) (k := k) (S := S) c
    have hmn := cbf_mono (A := A) (rl := rl) (p := p) (k := k) (S := S) (ns - (c + 1)) (c + 1)
    rw [show c + 1 + (ns - (c + 1)) = ns by omega] at hmn
    by_cases e : wia A rl p k S c = 0
    · rw [cbf_F e] at h14 ⊢
      obtain ⟨s3, k1, k2, k3, k4, k5⟩ := ih s2 (some (.long 0)) none (by omega) hf h14
      refine ⟨s3, fun Q => ?_, k2, k3, k4, k5⟩
      refine Eq.trans ?_ (s_X11_layBranch_146.trans (k1 Q))
      simp (disch := first | exact ae_isR_ref _ | exact ae_isR_null | exact ae_isR_rf _ | exact ae_cat_ref _ | exact ae_cat_int _ | exact ae_cat_null | exact ae_cat_rf _ | exact ae_nz0 | exact ae_nz1 | exact ae_fz0 | exact ae_fz1 | exact cI_na (by omega) | exact cI_ix (by omega) | exact cI_nn (by omega) | exact cI_nz (by omega) | exact cI_cp (by omega) | assumption | omega) only [s_X11_layBranch_71, s_X11_layBranch_73, s_X11_layBranch_76, s_X11_layBranch_77, s_X11_layBranch_78, s_X11_layBranch_81, s_X11_layBranch_82, s_X11_layBranch_83, s_X11_layBranch_85, s_X11_layBranch_87 rl_0, s_X11_layBranch_90, s_X11_layBranch_92, s_X11_layBranch_94, s_X11_layBranch_95, s_X11_layBranch_96, s_X11_layBranch_143, rg_0, rg_1, rg_2, rg_3, rg_4, rg_5, rg_6, rg_7, rg_8, rg_9, rg_10, rg_11, rg_12, rg_13, rg_14, rg_15, rg_16, rg_17, rg_18, rg_19, rg_20, rg_21, rg_22, rg_23, rg_24, rg_25, rg_26, rg_27, rg_28, rg_29, rg_30, rg_31, rg_32, rg_33, rg_34, rg_35, rg_36, rg_37, rg_38, rg_39, rg_40, rg_41, rg_42, rg_43, rg_44, rg_45, rg_46, rg_47, rg_48, rg_49, rg_50, rg_51, rg_52, rp_0, rp_4, rp_5, rp_14, rp_15, rp_26, rp_29, rp_30, rp_31, rp_32, rp_33, rp_35, rp_36, rp_38, rp_39, rp_41, rp_42, rp_44, rp_45, rp_47, rp_51, rz_1, rs_1, rz_2, rs_2, rz_3, rs_3, rz_6, rzW_6, rsW_6, rz_7, rs_7, rz_8, rs_8, rz_9, rzW_9, rsW_9, rz_10, rs_10, rz_11, rs_11, rz_12, rs_12, rz_13, rs_13, rz_16, rs_16, rz_17, rs_17, rz_18, rs_18, rz_19, rs_19, rz_20, rs_20, rz_21, rzW_21, rsW_21, rz_22, rs_22, rz_23, rs_23, rz_24, rs_24, rz_25, rs_25, rz_27, rzW_27, rsW_27, rz_28, rs_28, rz_34, rs_34, rz_37, rs_37, rz_40, rs_40, rz_43, rs_43, rz_46, rs_46, rz_48, rs_48, rz_49, rs_49, rz_50, rs_50, rz_52, rs_52, uI_1, uI_2, uR_1, uR_21, uR_22, uW_1, uW_21, uW_22, uW_3, uJ_1, uJ_21, uJ_22, uJ_3, rh_2, va_rf, Bool.false_eq_true, ae_Ki, ae_Kb, ae_Kj, ae_Ka, ae_Si, ae_Sb, ae_Sj, ae_Sn, List.getElem?_cons_succ, List.getElem?_cons_zero, ↓reduceIte, if_true, if_false, nI_ofNat, true_or, or_true, false_or, or_false, true_and, and_true, false_and, and_false, or_self, and_self, not_true_eq_false, not_false_eq_true, eq_self, List.length_cons, List.length_nil, Nat.reduceAdd, Nat.reduceLT, Nat.reduceSub, List.set_cons_succ, List.set_cons_zero, Option.toList, List.nil_append, List.cons_append, cI_ltT, cI_ltF, cI_leT, cI_leF, cI_eqT, cI_eqF, cI_cl, cN_leT, cN_leF, cN_ltT, cN_ltF, cN_eqT, cN_eqF, cI_add, cI_sub, cI_m1a, cI_m1b, cI_m1c, cI_m1d, cI_m1e, cI_m1f, g, e, cL_eq, dcr_s, dcr_of]
    · have eT := cbf_T e
      rw [eT] at h14 hmn ⊢
      have hw : m + cbf A rl p k S ns - (cbf A rl p k S c + 1) < 64 := by omega
      generalize hwv : m + cbf A rl p k S ns - (cbf A rl p k S c + 1) = w at h14 hw
      obtain ⟨g', r1, r2⟩ := m_X11_refine (d := d + 3) (h := h) (q := q) (p := p) (a1 := q + 206) (a2 := q + 48 + w) (j := jof p k) (k := k) (c := c) (up := fun g => uW s2 9 w g) (src := fun _ => s2.2.1 52) (g0 := s2.2.2.1 9 w) (A := A) (ns := ns) (fun g => by rw [rlW_9 hw]; simp [uW]) (fun g => rl_52) (fun g g' => by rw [rsW_9 hw, uW_uW]) (fun g y hy _ => hp2.1 y hy) (by omega) hp.2.2 hu2.1 (fun _ => rfl) (by omega) (by omega) hx
      rw [show uW s2 9 w (s2.2.2.1 9 w) = s2 from uW_same _ _ _] at r1
      have e14 : m + cbf A rl p k S ns - cbf A rl p k S c = w + 1 := by omega
      obtain ⟨s3, k1, k2, k3, k4, k5⟩ := ih (uI (uR (uR (uJ (uR (uW s2 9 w g') 10 (upd (s2.2.1 10) w (nI (p.length + A c)))) (vp_updL s2.2.2.2 w (wia A rl p k S c))) 12 (upd (s2.2.1 12) w (nI n))) 13 (upd (s2.2.1 13) w (nI (cbf A rl p k S c)))) 14 (nI (w + 1))) (some (.long (wia A rl p k S c))) none (by omega) (frm_trans hf ⟨fun t ht => by
          simp only [List.mem_cons, List.not_mem_nil, or_false] at ht
          simp [uI, uR, uJ, uW, ht], fun t ht => by
          simp only [List.mem_cons, List.not_mem_nil, or_false, not_or] at ht
          simp [uI, uR, uJ, uW, ht], fun t ht => by
          simp only [List.mem_cons, List.not_mem_nil, or_false] at ht
          simp [uI, uR, uJ, uW, ht]⟩) (by rw [e14]; simp [uI])
      rw [e14] at k4
      refine ⟨s3, fun Q => ?_, frm_trans (s2 := uI (uR (uR (uJ (uR (uW s2 9 w g') 10 (upd (s2.2.1 10) w (nI (p.length + A c)))) (vp_updL s2.2.2.2 w (wia A rl p k S c))) 12 (upd (s2.2.1 12) w (nI n))) 13 (upd (s2.2.1 13) w (nI (cbf A rl p k S c)))) 14 (nI (w + 1))) ⟨fun t ht => ?_, fun t ht => ?_, fun t ht => ?_⟩ k2, k3, ?_, fun o ho => ?_⟩
      · refine Eq.trans ?_ (s_X11_layBranch_146.trans (k1 Q))
        have gl := fun Q => m_X11_later (d := d + 3) (Q := Q) (h := h) (q := q) (s := uR (uW s2 9 w g') 10 (upd (s2.2.1 10) w (nI (p.length + A c)))) (m := w) (f := nI c) (par := nI n) (ord := nI (cbf A rl p k S c)) (S := wia A rl p k S c) h14 hw
        simp (disch := first | exact ae_isR_ref _ | exact ae_isR_null | exact ae_isR_rf _ | exact ae_cat_ref _ | exact ae_cat_int _ | exact ae_cat_null | exact ae_cat_rf _ | exact ae_nz0 | exact ae_nz1 | exact ae_fz0 | exact ae_fz1 | exact cI_na (by omega) | exact cI_ix (by omega) | exact cI_nn (by omega) | exact cI_nz (by omega) | exact cI_cp (by omega) | assumption | omega) only [s_X11_layBranch_71, s_X11_layBranch_73, s_X11_layBranch_76, s_X11_layBranch_77, s_X11_layBranch_78, s_X11_layBranch_81, s_X11_layBranch_82, s_X11_layBranch_83, s_X11_layBranch_85, s_X11_layBranch_87 rl_0, s_X11_layBranch_90, s_X11_layBranch_92, s_X11_layBranch_94, s_X11_layBranch_95, s_X11_layBranch_96, s_X11_layBranch_99, s_X11_layBranch_102, s_X11_layBranch_103, s_X11_layBranch_106, s_X11_layBranch_107, s_X11_layBranch_110, s_X11_layBranch_111, s_X11_layBranch_112, s_X11_layBranch_115, s_X11_layBranch_116, s_X11_layBranch_117, s_X11_layBranch_119, s_X11_layBranch_120, s_X11_layBranch_123, s_X11_layBranch_124, s_X11_layBranch_127, s_X11_layBranch_128 rl_0, s_X11_layBranch_131, s_X11_layBranch_132, s_X11_layBranch_133, s_X11_layBranch_135, s_X11_layBranch_136, s_X11_layBranch_138, s_X11_layBranch_140 rl_0, s_X11_layBranch_143, rg_0, rg_1, rg_2, rg_3, rg_4, rg_5, rg_6, rg_7, rg_8, rg_9, rg_10, rg_11, rg_12, rg_13, rg_14, rg_15, rg_16, rg_17, rg_18, rg_19, rg_20, rg_21, rg_22, rg_23, rg_24, rg_25, rg_26, rg_27, rg_28, rg_29, rg_30, rg_31, rg_32, rg_33, rg_34, rg_35, rg_36, rg_37, rg_38, rg_39, rg_40, rg_41, rg_42, rg_43, rg_44, rg_45, rg_46, rg_47, rg_48, rg_49, rg_50, rg_51, rg_52, rp_0, rp_4, rp_5, rp_14, rp_15, rp_26, rp_29, rp_30, rp_31, rp_32, rp_33, rp_35, rp_36, rp_38, rp_39, rp_41, rp_42, rp_44, rp_45, rp_47, rp_51, rz_1, rs_1, rz_2, rs_2, rz_3, rs_3, rz_6, rzW_6, rsW_6, rz_7, rs_7, rz_8, rs_8, rz_9, rzW_9, rsW_9, rz_10, rs_10, rz_11, rs_11, rz_12, rs_12, rz_13, rs_13, rz_16, rs_16, rz_17, rs_17, rz_18, rs_18, rz_19, rs_19, rz_20, rs_20, rz_21, rzW_21, rsW_21, rz_22, rs_22, rz_23, rs_23, rz_24, rs_24, rz_25, rs_25, rz_27, rzW_27, rsW_27, rz_28, rs_28, rz_34, rs_34, rz_37, rs_37, rz_40, rs_40, rz_43, rs_43, rz_46, rs_46, rz_48, rs_48, rz_49, rs_49, rz_50, rs_50, rz_52, rs_52, uI_1, uI_2, uR_1, uR_21, uR_22, uW_1, uW_21, uW_22, uW_3, uJ_1, uJ_21, uJ_22, uJ_3, rh_2, va_rf, Bool.false_eq_true, ae_Ki, ae_Kb, ae_Kj, ae_Ka, ae_Si, ae_Sb, ae_Sj, ae_Sn, List.getElem?_cons_succ, List.getElem?_cons_zero, ↓reduceIte, if_true, if_false, nI_ofNat, true_or, or_true, false_or, or_false, true_and, and_true, false_and, and_false, or_self, and_self, not_true_eq_false, not_false_eq_true, eq_self, List.length_cons, List.length_nil, Nat.reduceAdd, Nat.reduceLT, Nat.reduceSub, List.set_cons_succ, List.set_cons_zero, Option.toList, List.nil_append, List.cons_append, cI_ltT, cI_ltF, cI_leT, cI_leF, cI_eqT, cI_eqF, cI_cl, cN_leT, cN_leF, cN_ltT, cN_ltF, cN_eqT, cN_eqF, cI_add, cI_sub, cI_m1a, cI_m1b, cI_m1c, cI_m1d, cI_m1e, cI_m1f, g, e, cL_eq, dcr_s, dcr_of, h14, r1, gl, Nat.add_sub_cancel]
      · simp only [List.mem_cons, List.not_mem_nil, or_false] at ht
        simp [uI, uR, uJ, uW, ht]
      · simp only [List.mem_cons, List.not_mem_nil, or_false, not_or] at ht
        simp [uI, uR, uJ, uW, ht]
      · simp only [List.mem_cons, List.not_mem_nil, or_false] at ht
        simp [uI, uR, uJ, uW, ht]
      · refine blw_trans (fun i hi => ?_) (blw_mono k4 (by omega))
        have e1 : ¬ i = w := by omega
        simp [uI, uR, uJ, uW, upd, vp_updL, e1]
      · by_cases eo : o = cbf A rl p k S c
        · subst eo
          rw [chs_at e (by omega), show m + cbf A rl p k S ns - 1 - cbf A rl p k S c = w by omega]
          refine rSk_blw k4 (by omega) ⟨?_, ?_, ?_, ?_, ?_⟩
          · simpa [uI, uR, uJ, uW, kid] using r2
          · simp only [kid]
            rw [rfa_len (hix_lt _ _ _ hx).1]
            simp [uI, uR, uJ, uW, upd]
          · simp [uI, uR, uJ, uW, vp_updL, kid]
          · simp [uI, uR, uJ, uW, upd]
          · simp [uI, uR, uJ, uW, upd]
        · exact k5 o (by omega)
theorem m_X11_layBranch {k n m : Nat} (hu : rU s A ns rl) (h0 : 0 < ns) (hg : rgd ns A rl) (hp : rPat s p) (hpl : p.length ≤ 120) (hS : sgd A rl p S) (hx : hix p k = some (jof p k)) (hk : k < hol p) (h14 : s.1 14 = nI m) (hm : m + (chs A rl ns p k S).length ≤ 64) (hn : n < 5200) : ∃ s3, (∀ Q, ae_wm (d + 4) mX11_layBranch [.ref q, .int (nI n), .int (nI k), .int (nI p.length), .long S] (rh h q s) Q = Q none (rh h q s3)) ∧ frm s s3 [14] [10, 12, 13, 18] [9] ∧ s3.1 14 = nI (m + (chs A rl ns p k S).length) ∧ blw m s s3 ∧ (∀ o, o < (chs A rl ns p k S).length → rSk s3 (m + (chs A rl ns p k S).length - 1 - o) (kid A rl p k S ((chs A rl ns p k S).getD o 0)) (nI n) o) ∧ s3.2.1 18 = upd (s.2.1 18) n (nI (chs A rl ns p k S).length) := by
  have hhp := hol_le p
  have hc : (chs A rl ns p k S).length = cbf A rl p k S ns := rfl
  rw [hc] at hm ⊢
  have e1 := fun Q => m_X11_lb_count (d := d) (Q := Q) (h := h) (q := q) (n := n) hu hg hp hS hk (by omega) (l8 := none) (l9 := none) (l10 := none) ns 0 (by omega)
  have e0 : cbf A rl p k S 0 = 0 := rfl
  rw [e0] at e1
  obtain ⟨s3, k1, k2, k3, k4, k5⟩ := m_X11_lb_push (d := d) (h := h) (q := q) (n := n) (m := m) hu hg hp hpl hS hx hk hm (l6 := some (.int (nI (cbf A rl p k S ns)))) ns (uR s 18 (upd (s.2.1 18) n (nI (cbf A rl p k S ns)))) none none (Nat.le_refl _) ⟨fun _ _ => rfl, fun t ht => by
      simp only [List.mem_cons, List.not_mem_nil, or_false, not_or] at ht
      simp [uR, ht], fun _ _ => rfl⟩ (by rw [Nat.add_sub_cancel]; exact h14)
  rw [Nat.add_sub_cancel] at k4
  refine ⟨s3, fun Q => ?_, frm_trans (s2 := uR s 18 (upd (s.2.1 18) n (nI (cbf A rl p k S ns)))) ⟨fun _ _ => rfl, fun t ht => ?_, fun _ _ => rfl⟩ (frm_mono k2 (by simp) (by simp) (by simp)), k3, ?_, k5, ?_⟩
  · have hd : dcr ns = nI (ns - 1) := by
      obtain ⟨t, rfl⟩ : ∃ t, ns = t + 1 := ⟨ns - 1, by omega⟩
      rfl
    simp only [hd] at k1
    simp (disch := first | exact ae_isR_ref _ | exact ae_isR_null | exact ae_isR_rf _ | exact ae_cat_ref _ | exact ae_cat_int _ | exact ae_cat_null | exact ae_cat_rf _ | exact ae_nz0 | exact ae_nz1 | exact ae_fz0 | exact ae_fz1 | exact cI_na (by omega) | exact cI_ix (by omega) | exact cI_nn (by omega) | exact cI_nz (by omega) | exact cI_cp (by omega) | assumption | omega) only [s_X11_layBranch_0, s_X11_layBranch_1, s_X11_layBranch_3, s_X11_layBranch_4, e_X11_layBranch, e1, s_X11_layBranch_51, s_X11_layBranch_52, s_X11_layBranch_55, s_X11_layBranch_56, s_X11_layBranch_58, s_X11_layBranch_59, s_X11_layBranch_61, s_X11_layBranch_63, s_X11_layBranch_64, s_X11_layBranch_67, s_X11_layBranch_68, s_X11_layBranch_69, rg_0, rg_1, rg_2, rg_3, rg_4, rg_5, rg_6, rg_7, rg_8, rg_9, rg_10, rg_11, rg_12, rg_13, rg_14, rg_15, rg_16, rg_17, rg_18, rg_19, rg_20, rg_21, rg_22, rg_23, rg_24, rg_25, rg_26, rg_27, rg_28, rg_29, rg_30, rg_31, rg_32, rg_33, rg_34, rg_35, rg_36, rg_37, rg_38, rg_39, rg_40, rg_41, rg_42, rg_43, rg_44, rg_45, rg_46, rg_47, rg_48, rg_49, rg_50, rg_51, rg_52, rp_0, rp_4, rp_5, rp_14, rp_15, rp_26, rp_29, rp_30, rp_31, rp_32, rp_33, rp_35, rp_36, rp_38, rp_39, rp_41, rp_42, rp_44, rp_45, rp_47, rp_51, rz_1, rs_1, rz_2, rs_2, rz_3, rs_3, rz_6, rzW_6, rsW_6, rz_7, rs_7, rz_8, rs_8, rz_9, rzW_9, rsW_9, rz_10, rs_10, rz_11, rs_11, rz_12, rs_12, rz_13, rs_13, rz_16, rs_16, rz_17, rs_17, rz_18, rs_18, rz_19, rs_19, rz_20, rs_20, rz_21, rzW_21, rsW_21, rz_22, rs_22, rz_23, rs_23, rz_24, rs_24, rz_25, rs_25, rz_27, rzW_27, rsW_27, rz_28, rs_28, rz_34, rs_34, rz_37, rs_37, rz_40, rs_40, rz_43, rs_43, rz_46, rs_46, rz_48, rs_48, rz_49, rs_49, rz_50, rs_50, rz_52, rs_52, uI_1, uI_2, uR_1, uR_21, uR_22, uW_1, uW_21, uW_22, uW_3, uJ_1, uJ_21, uJ_22, uJ_3, rh_2, va_rf, Bool.false_eq_true, ae_Ki, ae_Kb, ae_Kj, ae_Ka, ae_Si, ae_Sb, ae_Sj, ae_Sn, List.getElem?_cons_succ, List.getElem?_cons_zero, ↓reduceIte, if_true, if_false, nI_ofNat, true_or, or_true, false_or, or_false, true_and, and_true, false_and, and_false, or_self, and_self, not_true_eq_false, not_false_eq_true, eq_self, List.length_cons, List.length_nil, Nat.reduceAdd, Nat.reduceLT, Nat.reduceSub, List.set_cons_succ, List.set_cons_zero, Option.toList, List.nil_append, List.cons_append, cI_ltT, cI_ltF, cI_leT, cI_leF, cI_eqT, cI_eqF, cI_cl, cN_leT, cN_leF, cN_ltT, cN_ltF, cN_eqT, cN_eqF, cI_add, cI_sub, cI_m1a, cI_m1b, cI_m1c, cI_m1d, cI_m1e, cI_m1f, hu.2.2, k1]
  · simp only [List.mem_cons, List.not_mem_nil, or_false, not_or] at ht
    simp [uR, ht]
  · exact blw_trans (s2 := uR s 18 (upd (s.2.1 18) n (nI (cbf A rl p k S ns)))) (fun i _ => ⟨rfl, rfl, rfl, rfl, rfl⟩) k4
  · rw [k2.2.1 18 (by decide)]
    simp [uR]
end REFX
