/-! NarrowSolverModel: part, use -/
def pt1 (A : Nat → Nat) (e a : List Nat) (mn fr x : Nat) (v : sV) (c : Nat) : sV := kpm v (sbx (nI x) (bnd A fr c) e) (sbx (nI x) (bnd A fr c) a) mn (fr + A c)
def ptm (A : Nat → Nat) (e a : List Nat) (mn fr x : Nat) (v : sV) (cs : List Nat) : sV := cs.foldl (pt1 A e a mn fr x) v
theorem sbx_m1 {B : List Nat} : ∀ (l : List Nat), (∀ x, x ∈ l → x < 2147483648) → sbx (-1) B l = l := by
  intro l
  induction l with
  | nil => intro _; rfl
  | cons x l ih =>
    intro h
    have h1 := h x (by simp)
    rw [sbx_neg (by rw [cI_m1a x h1]; exact id), ih (fun y hy => h y (by simp [hy]))]
theorem kn1_mem {ns : Nat} {l : List Nat} (hns : ns ≤ 24) (h : kn1 ns l) : ∀ x, x ∈ l → x < 256 := by
  intro x hx
  obtain ⟨i, hi, e⟩ := List.mem_iff_getElem.mp hx
  have := h i hi
  rw [List.getD_eq_getElem?_getD, List.getElem?_eq_getElem hi] at this
  simp only [Option.getD_some, e] at this
  omega
theorem sl_mem {l : List Nat} {a b x : Nat} (h : x ∈ sl l a b) : x ∈ l := List.mem_of_mem_drop (List.mem_of_mem_take h)
theorem sbx_m1s {ns : Nat} {e B : List Nat} {i j : Nat} (hns : ns ≤ 24) (h : kn1 ns e) : sbx (-1) B (sl e i j) = sl e i j := sbx_m1 _ (fun x hx => Nat.lt_trans (kn1_mem hns h x (sl_mem hx)) (by decide))
theorem sbx_m1a {ns : Nat} {e B : List Nat} (hns : ns ≤ 24) (h : kn1 ns e) : sbx (-1) B e = e := sbx_m1 _ (fun x hx => Nat.lt_trans (kn1_mem hns h x hx) (by decide))
/-- a left side as a pattern -/
def hpl (l : List Nat) : List Nat := l.map (fun y => if 100 ≤ y then 99 else y)
/-- where what stands in place of variables begins -/
def mpl (A : Nat → Nat) (e : List Nat) : List Nat → Nat → (Nat → Int32) → (Nat → Int32)
  | [], _, g => g
  | y :: l, j, g => if 100 ≤ y then mpl A e l (te A e j) (upd g (y - 100) (nI j)) else mpl A e l (j + 1) g
def mp2 (A : Nat → Nat) (e : List Nat) : List Nat → Nat → Nat → Option Nat
  | [], _, _ => none
  | y :: l, j, x => match mp2 A e l (if 100 ≤ y then te A e j else j + 1) x with
    | some r => some r
    | none => if y = x ∧ 100 ≤ y then some j else none
theorem mpl_eq {A : Nat → Nat} {e : List Nat} : ∀ (l : List Nat) (j : Nat) (g : Nat → Int32) (x : Nat), 100 ≤ x → mpl A e l j g (x - 100) = match mp2 A e l j x with
    | some r => nI r
    | none => g (x - 100) := by
  intro l
  induction l with
  | nil => intro j g x hx; rfl
  | cons y l ih =>
    intro j g x hx
    simp only [mpl, mp2]
    by_cases c : 100 ≤ y
    · rw [if_pos c, if_pos c, ih _ _ _ hx]
      cases mp2 A e l (te A e j) x with
      | some r => rfl
      | none =>
        dsimp only
        by_cases c2 : y = x
        · rw [if_pos ⟨c2, c⟩]
          simp [upd, c2]
        · rw [if_neg (fun z => c2 z.1)]
          simp only [upd]
          rw [if_neg (by omega)]
    · rw [if_neg c, if_neg c, ih _ _ _ hx]
      cases mp2 A e l (j + 1) x with
      | some r => rfl
      | none =>
        dsimp only
        rw [if_neg (fun z => c z.2)]
theorem mp2_in {A : Nat → Nat} {e : List Nat} : ∀ (l : List Nat) (j x : Nat), (∀ y, y ∈ l → y ≠ 99) → mtc A e (hpl l) j → x ∈ l → 100 ≤ x → ∃ r, mp2 A e l j x = some r ∧ r < e.length := by
  intro l
  induction l with
  | nil => intro j x _ _ h; cases h
  | cons y l ih =>
    intro j x h9 hm hx hx1
    have hy9 := h9 y (by simp)
    obtain ⟨m1, m2⟩ := hm
    simp only [mp2]
    have key : ∀ j2, mtc A e (hpl l) j2 → (x ∈ l ∨ (y = x ∧ 100 ≤ y)) → ∃ r, (match mp2 A e l j2 x with
        | some r => some r
        | none => if y = x ∧ 100 ≤ y then some j else none) = some r ∧ r < e.length := by
      intro j2 hm2 hor
      cases e1 : mp2 A e l j2 x with
      | some r =>
        by_cases hxl : x ∈ l
        · obtain ⟨r2, h1, h2⟩ := ih j2 x (fun y hy => h9 y (by simp [hy])) hm2 hxl hx1
          rw [e1] at h1
          cases h1
          exact ⟨r, rfl, h2⟩
        · exfalso
          have : ∀ (l : List Nat) (j : Nat) (x r : Nat), mp2 A e l j x = some r → x ∈ l := by
            intro l
            induction l with
            | nil => intro j x r h; cases h
            | cons z l ih2 =>
              intro j x r h
              simp only [mp2] at h
              cases e3 : mp2 A e l (if 100 ≤ z then te A e j else j + 1) x with
              | some r3 => exact List.mem_cons_of_mem _ (ih2 _ _ _ e3)
              | none =>
                rw [e3] at h
                dsimp only at h
                by_cases c : z = x ∧ 100 ≤ z
                · rw [c.1]; exact List.mem_cons_self
                · rw [if_neg c] at h; cases h
          exact hxl (this _ _ _ _ e1)
      | none =>
        dsimp only
        rcases hor with hxl | hyx
        · obtain ⟨r2, h1, _⟩ := ih j2 x (fun y hy => h9 y (by simp [hy])) hm2 hxl hx1
          rw [e1] at h1; cases h1
        · rw [if_pos hyx]; exact ⟨j, rfl, m1⟩
    have hor : x ∈ l ∨ (y = x ∧ 100 ≤ y) := by
      rcases List.mem_cons.mp hx with z | z
      · exact Or.inr ⟨z.symm, by omega⟩
      · exact Or.inl z
    by_cases c : 100 ≤ y
    · have m3 : mtc A e (hpl l) (te A e j) := by
        simp only [if_pos c] at m2
        exact m2
      rw [if_pos c]
      exact key _ m3 hor
    · have m3 : mtc A e (hpl l) (j + 1) := by
        simp only [if_neg c] at m2
        rw [if_neg hy9] at m2
        exact m2.2
      rw [if_neg c]
      exact key _ m3 hor
/-- the right side, with what stands in place of its variables -/
def rhs (A : Nat → Nat) (e l : List Nat) (at_ : Nat) (r : List Nat) : List Nat := r.flatMap (fun y => if 100 ≤ y then sl e ((mp2 A e l at_ y).getD 0) (te A e ((mp2 A e l at_ y).getD 0)) else [y])
def usm (A : Nat → Nat) (e a : List Nat) (mn fr : Nat) (v : sV) (x : List Nat × Nat) (at_ : Nat) : sV := kpm (v.1, v.2.1, v.2.2.1, v.2.2.2.1, v.2.2.2.2.1 + nI 1, v.2.2.2.2.2) (sl e 0 at_ ++ (rhs A e (x.1.take x.2) at_ (x.1.drop x.2) ++ sl e (te A e at_) e.length)) a mn fr
section REFI
variable {d : Nat} {Q : Option Value → ah_H → Prop} {h : ah_H} {q : Nat} {s : rS} {A : Nat → Nat} {ns : Nat} {rl : mR} {F : Nat → Bool} {e a p : List Nat} {mn fr k : Nat} {v : sV} {S : Int64}
theorem m_X11_part_loop {x : Nat} (hg : rgd ns A rl) (hw : wfq ns A (e, a, mn, fr)) (hS : sgd A rl p S) (hk : k < hol p) (hpl : p.length ≤ 400) : ∀ (m c : Nat) (s : rS), c + m = ns → rX s A F ns rl → rSv s (ptm A e a mn fr x v (chs A rl c p k S)) → rCur s e a mn fr → rPat s p → ∃ s2, (∀ Q, ae_wp (d + 4) mX11_part 3 [some (.ref q), some (.int (nI k)), some (.int (nI p.length)), some (.long S), none, some (.int (nI x)), some (.int (nI c))] [] (rh h q s) Q = Q none (rh h q s2)) ∧ rSv s2 (ptm A e a mn fr x v (chs A rl ns p k S)) ∧ frm s s2 SI SR SW := by
  obtain ⟨wl, wm⟩ := wfq_ans hw
  obtain ⟨w1, w2, w3, w4, w5, w6, w7⟩ := hw
  dsimp only at w1 w2 w3 w4 w5 w6 w7 wl wm
  have hhp := hol_le p
  intro m
  induction m with
  | zero =>
    intro c s hc hx hv hcu hp
    have e1 : c = ns := by omega
    subst e1
    refine ⟨s, fun Q => ?_, hv, frm_refl _ _ _ _⟩
    have hn := hx.1.2.2
    have hns := hx.1.1.1
    simp (disch := first | exact ae_isR_ref _ | exact ae_isR_null | exact ae_isR_rf _ | exact ae_cat_ref _ | exact ae_cat_int _ | exact ae_cat_null | exact ae_cat_rf _ | exact ae_nz0 | exact ae_nz1 | exact ae_fz0 | exact ae_fz1 | exact cI_na (by omega) | exact cI_ix (by omega) | exact cI_nn (by omega) | exact cI_nz (by omega) | exact cI_cp (by omega) | assumption | omega) only [s_X11_part_3, s_X11_part_5, s_X11_part_6, s_X11_part_9, s_X11_part_87, rg_0, rg_1, rg_2, rg_3, rg_4, rg_5, rg_6, rg_7, rg_8, rg_9, rg_10, rg_11, rg_12, rg_13, rg_14, rg_15, rg_16, rg_17, rg_18, rg_19, rg_20, rg_21, rg_22, rg_23, rg_24, rg_25, rg_26, rg_27, rg_28, rg_29, rg_30, rg_31, rg_32, rg_33, rg_34, rg_35, rg_36, rg_37, rg_38, rg_39, rg_40, rg_41, rg_42, rg_43, rg_44, rg_45, rg_46, rg_47, rg_48, rg_49, rg_50, rg_51, rg_52, rp_0, rp_4, rp_5, rp_14, rp_15, rp_26, rp_29, rp_30, rp_31, rp_32, rp_33, rp_35, rp_36, rp_38, rp_39, rp_41, rp_42, rp_44, rp_45, rp_47, rp_51, rz_1, rs_1, rz_2, rs_2, rz_3, rs_3, rz_6, rzW_6, rsW_6, rz_7, rs_7, rz_8, rs_8, rz_9, rzW_9, rsW_9, rz_10, rs_10, rz_11, rs_11, rz_12, rs_12, rz_13, rs_13, rz_16, rs_16, rz_17, rs_17, rz_18, rs_18, rz_19, rs_19, rz_20, rs_20, rz_21, rzW_21, rsW_21, rz_22, rs_22, rz_23, rs_23, rz_24, rs_24, rz_25, rs_25, rz_27, rzW_27, rsW_27, rz_28, rs_28, rz_34, rs_34, rz_37, rs_37, rz_40, rs_40, rz_43, rs_43, rz_46, rs_46, rz_48, rs_48, rz_49, rs_49, rz_50, rs_50, rz_52, rs_52, uI_1, uI_2, uR_1, uR_21, uR_22, uW_1, uW_21, uW_22, uW_3, uJ_1, uJ_21, uJ_22, uJ_3, rh_2, va_rf, Bool.false_eq_true, ae_Ki, ae_Kb, ae_Kj, ae_Ka, ae_Si, ae_Sb, ae_Sj, ae_Sn, List.getElem?_cons_succ, List.getElem?_cons_zero, ↓reduceIte, if_true, if_false, nI_ofNat, true_or, or_true, false_or, or_false, true_and, and_true, false_and, and_false, or_self, and_self, not_true_eq_false, not_false_eq_true, eq_self, List.length_cons, List.length_nil, Nat.reduceAdd, Nat.reduceLT, Nat.reduceSub, List.set_cons_succ, List.set_cons_zero, Option.toList, List.nil_append, List.cons_append, cI_ltT, cI_ltF, cI_leT, cI_leF, cI_eqT, cI_eqF, cI_cl, cN_leT, cN_leF, cN_ltT, cN_ltF, cN_eqT, cN_eqF, cI_add, cI_sub, cI_m1a, cI_m1b, cI_m1c, cI_m1d, cI_m1e, cI_m1f, hn]
  | succ m ih =>
    intro c s hc hx hv hcu hp
    have hx0 := hx
    obtain ⟨⟨hA, hr, hn⟩, hF⟩ := hx0
    have hns := hA.1
    have gw := fun Q => m_X11_withAt (d := d) (Q := Q) (h := h) (q := q) (s := s) (c := c) hA hr hg hp hS hk (by omega) (by omega)
    by_cases cz : wia A rl p k S c = 0
    · obtain ⟨s2, i1, i2, i3⟩ := ih (c + 1) s (by omega) hx (by rw [chs_succ, if_neg (by simp [cz]), List.append_nil]; exact hv) hcu hp
      refine ⟨s2, fun Q => ?_, i2, i3⟩
      refine Eq.trans ?_ (s_X11_part_84.trans (i1 Q))
      simp (disch := first | exact ae_isR_ref _ | exact ae_isR_null | exact ae_isR_rf _ | exact ae_cat_ref _ | exact ae_cat_int _ | exact ae_cat_null | exact ae_cat_rf _ | exact ae_nz0 | exact ae_nz1 | exact ae_fz0 | exact ae_fz1 | exact cI_na (by omega) | exact cI_ix (by omega) | exact cI_nn (by omega) | exact cI_nz (by omega) | exact cI_cp (by omega) | assumption | omega) only [s_X11_part_3, s_X11_part_5, s_X11_part_6, s_X11_part_9, s_X11_part_12, s_X11_part_13, s_X11_part_14, s_X11_part_17, s_X11_part_18, s_X11_part_19, s_X11_part_20, s_X11_part_22 rl_0, s_X11_part_25, s_X11_part_26, s_X11_part_27, s_X11_part_81, rg_0, rg_1, rg_2, rg_3, rg_4, rg_5, rg_6, rg_7, rg_8, rg_9, rg_10, rg_11, rg_12, rg_13, rg_14, rg_15, rg_16, rg_17, rg_18, rg_19, rg_20, rg_21, rg_22, rg_23, rg_24, rg_25, rg_26, rg_27, rg_28, rg_29, rg_30, rg_31, rg_32, rg_33, rg_34, rg_35, rg_36, rg_37, rg_38, rg_39, rg_40, rg_41, rg_42, rg_43, rg_44, rg_45, rg_46, rg_47, rg_48, rg_49, rg_50, rg_51, rg_52, rp_0, rp_4, rp_5, rp_14, rp_15, rp_26, rp_29, rp_30, rp_31, rp_32, rp_33, rp_35, rp_36, rp_38, rp_39, rp_41, rp_42, rp_44, rp_45, rp_47, rp_51, rz_1, rs_1, rz_2, rs_2, rz_3, rs_3, rz_6, rzW_6, rsW_6, rz_7, rs_7, rz_8, rs_8, rz_9, rzW_9, rsW_9, rz_10, rs_10, rz_11, rs_11, rz_12, rs_12, rz_13, rs_13, rz_16, rs_16, rz_17, rs_17, rz_18, rs_18, rz_19, rs_19, rz_20, rs_20, rz_21, rzW_21, rsW_21, rz_22, rs_22, rz_23, rs_23, rz_24, rs_24, rz_25, rs_25, rz_27, rzW_27, rsW_27, rz_28, rs_28, rz_34, rs_34, rz_37, rs_37, rz_40, rs_40, rz_43, rs_43, rz_46, rs_46, rz_48, rs_48, rz_49, rs_49, rz_50, rs_50, rz_52, rs_52, uI_1, uI_2, uR_1, uR_21, uR_22, uW_1, uW_21, uW_22, uW_3, uJ_1, uJ_21, uJ_22, uJ_3, rh_2, va_rf, Bool.false_eq_true, ae_Ki, ae_Kb, ae_Kj, ae_Ka, ae_Si, ae_Sb, ae_Sj, ae_Sn, List.getElem?_cons_succ, List.getElem?_cons_zero, ↓reduceIte, if_true, if_false, nI_ofNat, true_or, or_true, false_or, or_false, true_and, and_true, false_and, and_false, or_self, and_self, not_true_eq_false, not_false_eq_true, eq_self, List.length_cons, List.length_nil, Nat.reduceAdd, Nat.reduceLT, Nat.reduceSub, List.set_cons_succ, List.set_cons_zero, Option.toList, List.nil_append, List.cons_append, cI_ltT, cI_ltF, cI_leT, cI_leF, cI_eqT, cI_eqF, cI_cl, cN_leT, cN_leF, cN_ltT, cN_ltF, cN_eqT, cN_eqF, cI_add, cI_sub, cI_m1a, cI_m1b, cI_m1c, cI_m1d, cI_m1e, cI_m1f, hn, gw, cz, cL_eq]
    · obtain ⟨b1, b2⟩ := hA.2.1 c (by omega)
      obtain ⟨s2, y1, y2, y3⟩ := m_X11_bindTo (d := d + 3) (h := h) (q := q) (c := c) (by omega) hA hcu.2.2.2 (by omega)
      have hfA : frm s (uI s2 42 (nI 0)) [42, 47] [46] [] := frm_trans (frm_mono y3 (by simp) (by simp) (by simp)) (frm_mono (frm_uI s2 42 (nI 0)) (by simp) (by simp) (by simp))
      have hB3 : rBd (uI s2 42 (nI 0)) (bnd A fr c) := y2
      have hC3 := rCur_frm hfA (by decide) (by decide) hcu
      have gb := fun Q => m_X11_beginNew (d := d + 3) (Q := Q) (h := h) (q := q) (s := s2)
      have g3 := fun Q => m_X11_giveAll (d := d + 2) (Q := Q) (h := h) (q := q) (s := uI s2 42 (nI 0)) (L := []) (T := []) (v := nI x) hB3 hC3.1.2.1 hC3.1.2.2 (a := 0) (b := e.length) (by omega) (by omega)
      rw [List.nil_append, sl_all] at g3
      have g4 := fun L Q => m_X11_giveAnswers (d := d + 2) (Q := Q) (h := h) (q := q) (s := uI s2 42 (nI 0)) (L := L) (T := []) (v := nI x) hB3 hC3.2.2.1.2.1 hC3.2.2.1.2.2 hC3.2.2.1.1
      simp only [List.nil_append] at g4
      have hv4 : rSv (uI (uI s2 42 (nI 0)) 42 (nI mn)) (ptm A e a mn fr x v (chs A rl c p k S)) := rSv_frm (frm_uI _ _ _) (by decide) (by decide) (by decide) (rSv_frm hfA (by decide) (by decide) (by decide) hv)
      obtain ⟨s5, z1, z2, z3⟩ := m_X11_keepM (d := d + 3) (h := h) (q := q) (L := sbx (nI x) (bnd A fr c) e) (T := sbx (nI x) (bnd A fr c) a) (mn := mn) (nx := fr + A c) hv4 (by simp [uI]) (by omega) (by omega)
      have hf5 : frm s (nb s5 (sbx (nI x) (bnd A fr c) e) (sbx (nI x) (bnd A fr c) a)) [26, 29, 33, 41, 42, 44, 45, 47] [22, 23, 24, 25, 28, 40, 43, 46] [21, 27] := frm_trans (frm_mono hfA (by decide) (by decide) (by decide)) (frm_trans (frm_mono (frm_uI _ _ _) (by decide) (by decide) (by decide)) (frm_trans (frm_mono z3 (by decide) (by decide) (by decide)) (frm_mono (nb_frm _ _ _) (by decide) (by decide) (by decide))))
      have hf6 := frm_mono (I2 := SI) (R2 := SR) (W2 := SW) hf5 (by decide) (by decide) (by decide)
      obtain ⟨s6, i1, i2, i3⟩ := ih (c + 1) (nb s5 (sbx (nI x) (bnd A fr c) e) (sbx (nI x) (bnd A fr c) a)) (by omega) (rX_frm hf6 hx) (by
        rw [chs_succ, if_pos cz]
        unfold ptm
        rw [List.foldl_append]
        exact rSv_frm (nb_frm _ _ _) (by decide) (by decide) (by decide) z2) (rCur_frm hf5 (by decide) (by decide) hcu) (by
        unfold rPat
        rw [hf5.2.1 52 (by decide)]
        exact hp)
      refine ⟨s6, fun Q => ?_, i2, frm_trans hf6 i3⟩
      refine Eq.trans ?_ (s_X11_part_84.trans (i1 Q))
      have q35 : s2.1 35 = nI e.length := hC3.1.1
      have q36 : s2.1 36 = nI mn := hC3.2.1
      have q39 : s2.1 39 = nI fr := hC3.2.2.2
      have r2 : s2.2.1 2 c = nI (A c) := by rw [y3.2.1 2 (by decide)]; exact b1
      simp (disch := first | exact ae_isR_ref _ | exact ae_isR_null | exact ae_isR_rf _ | exact ae_cat_ref _ | exact ae_cat_int _ | exact ae_cat_null | exact ae_cat_rf _ | exact ae_nz0 | exact ae_nz1 | exact ae_fz0 | exact ae_fz1 | exact cI_na (by omega) | exact cI_ix (by omega) | exact cI_nn (by omega) | exact cI_nz (by omega) | exact cI_cp (by omega) | assumption | omega) only [s_X11_part_3, s_X11_part_5, s_X11_part_6, s_X11_part_9, s_X11_part_12, s_X11_part_13, s_X11_part_14, s_X11_part_17, s_X11_part_18, s_X11_part_19, s_X11_part_20, s_X11_part_22 rl_0, s_X11_part_25, s_X11_part_26, s_X11_part_27, s_X11_part_30, s_X11_part_31, s_X11_part_33 rl_0, s_X11_part_36, s_X11_part_37 rl_0, s_X11_part_40, s_X11_part_41, s_X11_part_42, s_X11_part_43, s_X11_part_46, s_X11_part_48 rl_0, s_X11_part_51, s_X11_part_52, s_X11_part_54 rl_0, s_X11_part_57, s_X11_part_58, s_X11_part_59, s_X11_part_62, s_X11_part_65, s_X11_part_66, s_X11_part_67, s_X11_part_70, s_X11_part_71, s_X11_part_74, s_X11_part_76, s_X11_part_77, s_X11_part_78 rl_0, s_X11_part_81, rg_0, rg_1, rg_2, rg_3, rg_4, rg_5, rg_6, rg_7, rg_8, rg_9, rg_10, rg_11, rg_12, rg_13, rg_14, rg_15, rg_16, rg_17, rg_18, rg_19, rg_20, rg_21, rg_22, rg_23, rg_24, rg_25, rg_26, rg_27, rg_28, rg_29, rg_30, rg_31, rg_32, rg_33, rg_34, rg_35, rg_36, rg_37, rg_38, rg_39, rg_40, rg_41, rg_42, rg_43, rg_44, rg_45, rg_46, rg_47, rg_48, rg_49, rg_50, rg_51, rg_52, rp_0, rp_4, rp_5, rp_14, rp_15, rp_26, rp_29, rp_30, rp_31, rp_32, rp_33, rp_35, rp_36, rp_38, rp_39, rp_41, rp_42, rp_44, rp_45, rp_47, rp_51, rz_1, rs_1, rz_2, rs_2, rz_3, rs_3, rz_6, rzW_6, rsW_6, rz_7, rs_7, rz_8, rs_8, rz_9, rzW_9, rsW_9, rz_10, rs_10, rz_11, rs_11, rz_12, rs_12, rz_13, rs_13, rz_16, rs_16, rz_17, rs_17, rz_18, rs_18, rz_19, rs_19, rz_20, rs_20, rz_21, rzW_21, rsW_21, rz_22, rs_22, rz_23, rs_23, rz_24, rs_24, rz_25, rs_25, rz_27, rzW_27, rsW_27, rz_28, rs_28, rz_34, rs_34, rz_37, rs_37, rz_40, rs_40, rz_43, rs_43, rz_46, rs_46, rz_48, rs_48, rz_49, rs_49, rz_50, rs_50, rz_52, rs_52, uI_1, uI_2, uR_1, uR_21, uR_22, uW_1, uW_21, uW_22, uW_3, uJ_1, uJ_21, uJ_22, uJ_3, rh_2, va_rf, Bool.false_eq_true, ae_Ki, ae_Kb, ae_Kj, ae_Ka, ae_Si, ae_Sb, ae_Sj, ae_Sn, List.getElem?_cons_succ, List.getElem?_cons_zero, ↓reduceIte, if_true, if_false, nI_ofNat, true_or, or_true, false_or, or_false, true_and, and_true, false_and, and_false, or_self, and_self, not_true_eq_false, not_false_eq_true, eq_self, List.length_cons, List.length_nil, Nat.reduceAdd, Nat.reduceLT, Nat.reduceSub, List.set_cons_succ, List.set_cons_zero, Option.toList, List.nil_append, List.cons_append, cI_ltT, cI_ltF, cI_leT, cI_leF, cI_eqT, cI_eqF, cI_cl, cN_leT, cN_leF, cN_ltT, cN_ltF, cN_eqT, cN_eqF, cI_add, cI_sub, cI_m1a, cI_m1b, cI_m1c, cI_m1d, cI_m1e, cI_m1f, hn, gw, cz, cL_eq, y1, gb, g3, g4, nb_I, nb_R, nb_uI, q35, q36, q39, r2, z1]
theorem m_X11_part {x : Nat} (hg : rgd ns A rl) (hw : wfq ns A (e, a, mn, fr)) (hS : sgd A rl p S) (hk : k < hol p) (hpl : p.length ≤ 400) (hx : rX s A F ns rl) (hv : rSv s v) (hcu : rCur s e a mn fr) (hp : rPat s p) : ∃ s2, (∀ Q, ae_wm (d + 4) mX11_part [.ref q, .int (nI k), .int (nI p.length), .long S, .int (nI x)] (rh h q s) Q = Q none (rh h q s2)) ∧ rSv s2 (ptm A e a mn fr x v (chs A rl ns p k S)) ∧ frm s s2 SI SR SW := by
  obtain ⟨s2, i1, i2, i3⟩ := m_X11_part_loop (d := d) (h := h) (q := q) (x := x) (v := v) (F := F) hg hw hS hk hpl ns 0 s (by omega) hx hv hcu hp
  refine ⟨s2, fun Q => ?_, i2, i3⟩
  simp (disch := first | exact ae_isR_ref _ | exact ae_isR_null | exact ae_isR_rf _ | exact ae_cat_ref _ | exact ae_cat_int _ | exact ae_cat_null | exact ae_cat_rf _ | exact ae_nz0 | exact ae_nz1 | exact ae_fz0 | exact ae_fz1 | exact cI_na (by omega) | exact cI_ix (by omega) | exact cI_nn (by omega) | exact cI_nz (by omega) | exact cI_cp (by omega) | assumption | omega) only [s_X11_part_0, s_X11_part_1, e_X11_part, i1]
theorem hpl_cons (y : Nat) (l : List Nat) : hpl (y :: l) = (if 100 ≤ y then 99 else y) :: hpl l := rfl
theorem m_X11_use_match {r at_ : Nat} {l row : List Nat} (hcu : rCur s e a mn fr) (hA : arl A ns (s.2.1 2)) (hk1 : kn1 ns e) (hac : acm A e) (hr4 : r < 40) (hrow : rowl row (s.2.2.1 6 r)) (hls : s.2.1 7 r = nI l.length) (hl : l = row.take l.length) (hr1 : row.length ≤ 120) (hkn : ∀ i, i < row.length → knw ns (row.getD i 0) = true) (hns : ns ≤ 24) {l5 l6 : Option Value} : ∀ (m i j : Nat) (g : Nat → Int32), i + m = l.length → j ≤ e.length → mtc A e (hpl (l.drop i)) j → ∃ x3, ∀ Q, ae_wp (d + 2) mX11_use 15 [some (.ref q), some (.int (nI r)), some (.int (nI at_)), some (.int (nI j)), some (.int (nI i)), l5, l6] [] (rh h q (uR s 48 g)) Q = ae_wp (d + 2) mX11_use 80 [some (.ref q), some (.int (nI r)), some (.int (nI at_)), x3, some (.int (nI l.length)), l5, l6] [] (rh h q (uR s 48 (mpl A e (l.drop i) j g))) Q := by
  obtain ⟨⟨c1, c2, c3⟩, c4, c5, c6⟩ := hcu
  have hll : l.length ≤ row.length := by
    have : l.length = (row.take l.length).length := by rw [← hl]
    rw [List.length_take] at this
    omega
  intro m
  induction m with
  | zero =>
    intro i j g hi hj hm
    have e1 : i = l.length := by omega
    subst e1
    refine ⟨some (.int (nI j)), fun Q => ?_⟩
    rw [List.drop_length]
    simp (disch := first | exact ae_isR_ref _ | exact ae_isR_null | exact ae_isR_rf _ | exact ae_cat_ref _ | exact ae_cat_int _ | exact ae_cat_null | exact ae_cat_rf _ | exact ae_nz0 | exact ae_nz1 | exact ae_fz0 | exact ae_fz1 | exact cI_na (by omega) | exact cI_ix (by omega) | exact cI_nn (by omega) | exact cI_nz (by omega) | exact cI_cp (by omega) | assumption | omega) only [s_X11_use_15, s_X11_use_17, s_X11_use_18, s_X11_use_21, s_X11_use_22, s_X11_use_23, rg_0, rg_1, rg_2, rg_3, rg_4, rg_5, rg_6, rg_7, rg_8, rg_9, rg_10, rg_11, rg_12, rg_13, rg_14, rg_15, rg_16, rg_17, rg_18, rg_19, rg_20, rg_21, rg_22, rg_23, rg_24, rg_25, rg_26, rg_27, rg_28, rg_29, rg_30, rg_31, rg_32, rg_33, rg_34, rg_35, rg_36, rg_37, rg_38, rg_39, rg_40, rg_41, rg_42, rg_43, rg_44, rg_45, rg_46, rg_47, rg_48, rg_49, rg_50, rg_51, rg_52, rp_0, rp_4, rp_5, rp_14, rp_15, rp_26, rp_29, rp_30, rp_31, rp_32, rp_33, rp_35, rp_36, rp_38, rp_39, rp_41, rp_42, rp_44, rp_45, rp_47, rp_51, rz_1, rs_1, rz_2, rs_2, rz_3, rs_3, rz_6, rzW_6, rsW_6, rz_7, rs_7, rz_8, rs_8, rz_9, rzW_9, rsW_9, rz_10, rs_10, rz_11, rs_11, rz_12, rs_12, rz_13, rs_13, rz_16, rs_16, rz_17, rs_17, rz_18, rs_18, rz_19, rs_19, rz_20, rs_20, rz_21, rzW_21, rsW_21, rz_22, rs_22, rz_23, rs_23, rz_24, rs_24, rz_25, rs_25, rz_27, rzW_27, rsW_27, rz_28, rs_28, rz_34, rs_34, rz_37, rs_37, rz_40, rs_40, rz_43, rs_43, rz_46, rs_46, rz_48, rs_48, rz_49, rs_49, rz_50, rs_50, rz_52, rs_52, uI_1, uI_2, uR_1, uR_21, uR_22, uW_1, uW_21, uW_22, uW_3, uJ_1, uJ_21, uJ_22, uJ_3, rh_2, va_rf, Bool.false_eq_true, ae_Ki, ae_Kb, ae_Kj, ae_Ka, ae_Si, ae_Sb, ae_Sj, ae_Sn, List.getElem?_cons_succ, List.getElem?_cons_zero, ↓reduceIte, if_true, if_false, nI_ofNat, true_or, or_true, false_or, or_false, true_and, and_true, false_and, and_false, or_self, and_self, not_true_eq_false, not_false_eq_true, eq_self, List.length_cons, List.length_nil, Nat.reduceAdd, Nat.reduceLT, Nat.reduceSub, List.set_cons_succ, List.set_cons_zero, Option.toList, List.nil_append, List.cons_append, cI_ltT, cI_ltF, cI_leT, cI_leF, cI_eqT, cI_eqF, cI_cl, cN_leT, cN_leF, cN_ltT, cN_ltF, cN_eqT, cN_eqF, cI_add, cI_sub, cI_m1a, cI_m1b, cI_m1c, cI_m1d, cI_m1e, cI_m1f, hls, mpl]
  | succ m ih =>
    intro i j g hi hj hm
    have hil : i < l.length := by omega
    have hro := hrow i (by omega)
    have hel : l.getD i 0 = row.getD i 0 := by
      rw [hl, List.getD_eq_getElem?_getD, List.getElem?_take_of_lt hil, ← List.getD_eq_getElem?_getD]
    have hkk := of_decide_eq_true (hkn i (by omega))
    rw [drop_cons hil, hel] at hm ⊢
    rw [hpl_cons] at hm
    obtain ⟨m1, m2⟩ := hm
    generalize row.getD i 0 = y at hro hkk m2 ⊢
    rw [mpl]
    by_cases c : 100 ≤ y
    · rw [if_pos c] at m2 ⊢
      rw [if_pos rfl] at m2
      obtain ⟨x3, i1⟩ := ih (i + 1) (te A e j) (upd g (y - 100) (nI j)) (by omega) (te_le A e hj) m2
      have ge := fun g Q => m_X11_endOf (d := d) (Q := Q) (h := h) (q := q) (s := uR s 48 g) rl_34 hA c3 (by omega) c2 (kn1_kno hk1) (hac j m1) (by omega)
      refine ⟨x3, fun Q => ?_⟩
      refine Eq.trans ?_ (s_X11_use_77.trans (i1 Q))
      simp (disch := first | exact ae_isR_ref _ | exact ae_isR_null | exact ae_isR_rf _ | exact ae_cat_ref _ | exact ae_cat_int _ | exact ae_cat_null | exact ae_cat_rf _ | exact ae_nz0 | exact ae_nz1 | exact ae_fz0 | exact ae_fz1 | exact cI_na (by omega) | exact cI_ix (by omega) | exact cI_nn (by omega) | exact cI_nz (by omega) | exact cI_cp (by omega) | assumption | omega) only [s_X11_use_15, s_X11_use_17, s_X11_use_18, s_X11_use_21, s_X11_use_22, s_X11_use_23, s_X11_use_26, s_X11_use_27, s_X11_use_30, s_X11_use_31, s_X11_use_32, s_X11_use_34, s_X11_use_35, s_X11_use_37, s_X11_use_40, s_X11_use_41, s_X11_use_44, s_X11_use_45, s_X11_use_48, s_X11_use_49, s_X11_use_50, s_X11_use_52, s_X11_use_53, s_X11_use_55, s_X11_use_56, s_X11_use_57, s_X11_use_58, s_X11_use_59, s_X11_use_60, s_X11_use_63, s_X11_use_64 rl_0, s_X11_use_67, s_X11_use_68, s_X11_use_71, s_X11_use_74, rg_0, rg_1, rg_2, rg_3, rg_4, rg_5, rg_6, rg_7, rg_8, rg_9, rg_10, rg_11, rg_12, rg_13, rg_14, rg_15, rg_16, rg_17, rg_18, rg_19, rg_20, rg_21, rg_22, rg_23, rg_24, rg_25, rg_26, rg_27, rg_28, rg_29, rg_30, rg_31, rg_32, rg_33, rg_34, rg_35, rg_36, rg_37, rg_38, rg_39, rg_40, rg_41, rg_42, rg_43, rg_44, rg_45, rg_46, rg_47, rg_48, rg_49, rg_50, rg_51, rg_52, rp_0, rp_4, rp_5, rp_14, rp_15, rp_26, rp_29, rp_30, rp_31, rp_32, rp_33, rp_35, rp_36, rp_38, rp_39, rp_41, rp_42, rp_44, rp_45, rp_47, rp_51, rz_1, rs_1, rz_2, rs_2, rz_3, rs_3, rz_6, rzW_6, rsW_6, rz_7, rs_7, rz_8, rs_8, rz_9, rzW_9, rsW_9, rz_10, rs_10, rz_11, rs_11, rz_12, rs_12, rz_13, rs_13, rz_16, rs_16, rz_17, rs_17, rz_18, rs_18, rz_19, rs_19, rz_20, rs_20, rz_21, rzW_21, rsW_21, rz_22, rs_22, rz_23, rs_23, rz_24, rs_24, rz_25, rs_25, rz_27, rzW_27, rsW_27, rz_28, rs_28, rz_34, rs_34, rz_37, rs_37, rz_40, rs_40, rz_43, rs_43, rz_46, rs_46, rz_48, rs_48, rz_49, rs_49, rz_50, rs_50, rz_52, rs_52, uI_1, uI_2, uR_1, uR_21, uR_22, uW_1, uW_21, uW_22, uW_3, uJ_1, uJ_21, uJ_22, uJ_3, rh_2, va_rf, Bool.false_eq_true, ae_Ki, ae_Kb, ae_Kj, ae_Ka, ae_Si, ae_Sb, ae_Sj, ae_Sn, List.getElem?_cons_succ, List.getElem?_cons_zero, ↓reduceIte, if_true, if_false, nI_ofNat, true_or, or_true, false_or, or_false, true_and, and_true, false_and, and_false, or_self, and_self, not_true_eq_false, not_false_eq_true, eq_self, List.length_cons, List.length_nil, Nat.reduceAdd, Nat.reduceLT, Nat.reduceSub, List.set_cons_succ, List.set_cons_zero, Option.toList, List.nil_append, List.cons_append, cI_ltT, cI_ltF, cI_leT, cI_leF, cI_eqT, cI_eqF, cI_cl, cN_leT, cN_leF, cN_ltT, cN_ltF, cN_eqT, cN_eqF, cI_add, cI_sub, cI_m1a, cI_m1b, cI_m1c, cI_m1d, cI_m1e, cI_m1f, hls, hro, ge, uR_uR]
    · have cy : y ≠ 99 := by omega
      rw [if_neg c] at m2 ⊢
      rw [if_neg cy] at m2
      obtain ⟨x3, i1⟩ := ih (i + 1) (j + 1) g (by omega) (by omega) m2.2
      refine ⟨x3, fun Q => ?_⟩
      refine Eq.trans ?_ (s_X11_use_77.trans (i1 Q))
      simp (disch := first | exact ae_isR_ref _ | exact ae_isR_null | exact ae_isR_rf _ | exact ae_cat_ref _ | exact ae_cat_int _ | exact ae_cat_null | exact ae_cat_rf _ | exact ae_nz0 | exact ae_nz1 | exact ae_fz0 | exact ae_fz1 | exact cI_na (by omega) | exact cI_ix (by omega) | exact cI_nn (by omega) | exact cI_nz (by omega) | exact cI_cp (by omega) | assumption | omega) only [s_X11_use_15, s_X11_use_17, s_X11_use_18, s_X11_use_21, s_X11_use_22, s_X11_use_23, s_X11_use_26, s_X11_use_27, s_X11_use_30, s_X11_use_31, s_X11_use_32, s_X11_use_34, s_X11_use_35, s_X11_use_37, s_X11_use_40, s_X11_use_41, s_X11_use_44, s_X11_use_45, s_X11_use_48, s_X11_use_49, s_X11_use_50, s_X11_use_52, s_X11_use_53, s_X11_use_55, s_X11_use_56, s_X11_use_57, s_X11_use_58, s_X11_use_59, s_X11_use_60, s_X11_use_63, s_X11_use_64 rl_0, s_X11_use_67, s_X11_use_68, s_X11_use_71, s_X11_use_74, rg_0, rg_1, rg_2, rg_3, rg_4, rg_5, rg_6, rg_7, rg_8, rg_9, rg_10, rg_11, rg_12, rg_13, rg_14, rg_15, rg_16, rg_17, rg_18, rg_19, rg_20, rg_21, rg_22, rg_23, rg_24, rg_25, rg_26, rg_27, rg_28, rg_29, rg_30, rg_31, rg_32, rg_33, rg_34, rg_35, rg_36, rg_37, rg_38, rg_39, rg_40, rg_41, rg_42, rg_43, rg_44, rg_45, rg_46, rg_47, rg_48, rg_49, rg_50, rg_51, rg_52, rp_0, rp_4, rp_5, rp_14, rp_15, rp_26, rp_29, rp_30, rp_31, rp_32, rp_33, rp_35, rp_36, rp_38, rp_39, rp_41, rp_42, rp_44, rp_45, rp_47, rp_51, rz_1, rs_1, rz_2, rs_2, rz_3, rs_3, rz_6, rzW_6, rsW_6, rz_7, rs_7, rz_8, rs_8, rz_9, rzW_9, rsW_9, rz_10, rs_10, rz_11, rs_11, rz_12, rs_12, rz_13, rs_13, rz_16, rs_16, rz_17, rs_17, rz_18, rs_18, rz_19, rs_19, rz_20, rs_20, rz_21, rzW_21, rsW_21, rz_22, rs_22, rz_23, rs_23, rz_24, rs_24, rz_25, rs_25, rz_27, rzW_27, rsW_27, rz_28, rs_28, rz_34, rs_34, rz_37, rs_37, rz_40, rs_40, rz_43, rs_43, rz_46, rs_46, rz_48, rs_48, rz_49, rs_49, rz_50, rs_50, rz_52, rs_52, uI_1, uI_2, uR_1, uR_21, uR_22, uW_1, uW_21, uW_22, uW_3, uJ_1, uJ_21, uJ_22, uJ_3, rh_2, va_rf, Bool.false_eq_true, ae_Ki, ae_Kb, ae_Kj, ae_Ka, ae_Si, ae_Sb, ae_Sj, ae_Sn, List.getElem?_cons_succ, List.getElem?_cons_zero, ↓reduceIte, if_true, if_false, nI_ofNat, true_or, or_true, false_or, or_false, true_and, and_true, false_and, and_false, or_self, and_self, not_true_eq_false, not_false_eq_true, eq_self, List.length_cons, List.length_nil, Nat.reduceAdd, Nat.reduceLT, Nat.reduceSub, List.set_cons_succ, List.set_cons_zero, Option.toList, List.nil_append, List.cons_append, cI_ltT, cI_ltF, cI_leT, cI_leF, cI_eqT, cI_eqF, cI_cl, cN_leT, cN_leF, cN_ltT, cN_ltF, cN_eqT, cN_eqF, cI_add, cI_sub, cI_m1a, cI_m1b, cI_m1c, cI_m1d, cI_m1e, cI_m1f, hls, hro]
theorem m_X11_use_give {r at_ : Nat} {l row T : List Nat} (hcu : rCur s e a mn fr) (hB : rBd s []) (hA : arl A ns (s.2.1 2)) (hk1 : kn1 ns e) (hac : acm A e) (hr4 : r < 40) (hrow : rowl row (s.2.2.1 6 r)) (hrs : s.2.1 8 r = nI row.length) (hr1 : row.length ≤ 120) (hkn : ∀ i, i < row.length → knw ns (row.getD i 0) = true) (hns : ns ≤ 24) (hpos : ∀ y, y ∈ row.drop l.length → 100 ≤ y → ∃ x, mp2 A e l at_ y = some x ∧ x < e.length ∧ s.2.1 48 (y - 100) = nI x) {l3 : Option Value} : ∀ (m i : Nat) (L : List Nat) (l5 l6 : Option Value), i + m = row.length → l.length ≤ i → ∃ x5 x6, ∀ Q, ae_wp (d + 2) mX11_use 104 [some (.ref q), some (.int (nI r)), some (.int (nI at_)), l3, some (.int (nI i)), l5, l6] [] (rh h q (nb s L T)) Q = ae_wp (d + 2) mX11_use 177 [some (.ref q), some (.int (nI r)), some (.int (nI at_)), l3, some (.int (nI row.length)), x5, x6] [] (rh h q (nb s (L ++ rhs A e l at_ (row.drop i)) T)) Q := by
  obtain ⟨⟨c1, c2, c3⟩, c4, c5, c6⟩ := hcu
  intro m
  induction m with
  | zero =>
    intro i L l5 l6 hi hli
    have e1 : i = row.length := by omega
    subst e1
    refine ⟨l5, l6, fun Q => ?_⟩
    rw [List.drop_length, show rhs A e l at_ [] = [] from rfl, List.append_nil]
    simp (disch := first | exact ae_isR_ref _ | exact ae_isR_null | exact ae_isR_rf _ | exact ae_cat_ref _ | exact ae_cat_int _ | exact ae_cat_null | exact ae_cat_rf _ | exact ae_nz0 | exact ae_nz1 | exact ae_fz0 | exact ae_fz1 | exact cI_na (by omega) | exact cI_ix (by omega) | exact cI_nn (by omega) | exact cI_nz (by omega) | exact cI_cp (by omega) | assumption | omega) only [s_X11_use_104, s_X11_use_106, s_X11_use_107, s_X11_use_110, s_X11_use_111, s_X11_use_112, rg_0, rg_1, rg_2, rg_3, rg_4, rg_5, rg_6, rg_7, rg_8, rg_9, rg_10, rg_11, rg_12, rg_13, rg_14, rg_15, rg_16, rg_17, rg_18, rg_19, rg_20, rg_21, rg_22, rg_23, rg_24, rg_25, rg_26, rg_27, rg_28, rg_29, rg_30, rg_31, rg_32, rg_33, rg_34, rg_35, rg_36, rg_37, rg_38, rg_39, rg_40, rg_41, rg_42, rg_43, rg_44, rg_45, rg_46, rg_47, rg_48, rg_49, rg_50, rg_51, rg_52, rp_0, rp_4, rp_5, rp_14, rp_15, rp_26, rp_29, rp_30, rp_31, rp_32, rp_33, rp_35, rp_36, rp_38, rp_39, rp_41, rp_42, rp_44, rp_45, rp_47, rp_51, rz_1, rs_1, rz_2, rs_2, rz_3, rs_3, rz_6, rzW_6, rsW_6, rz_7, rs_7, rz_8, rs_8, rz_9, rzW_9, rsW_9, rz_10, rs_10, rz_11, rs_11, rz_12, rs_12, rz_13, rs_13, rz_16, rs_16, rz_17, rs_17, rz_18, rs_18, rz_19, rs_19, rz_20, rs_20, rz_21, rzW_21, rsW_21, rz_22, rs_22, rz_23, rs_23, rz_24, rs_24, rz_25, rs_25, rz_27, rzW_27, rsW_27, rz_28, rs_28, rz_34, rs_34, rz_37, rs_37, rz_40, rs_40, rz_43, rs_43, rz_46, rs_46, rz_48, rs_48, rz_49, rs_49, rz_50, rs_50, rz_52, rs_52, uI_1, uI_2, uR_1, uR_21, uR_22, uW_1, uW_21, uW_22, uW_3, uJ_1, uJ_21, uJ_22, uJ_3, rh_2, va_rf, Bool.false_eq_true, ae_Ki, ae_Kb, ae_Kj, ae_Ka, ae_Si, ae_Sb, ae_Sj, ae_Sn, List.getElem?_cons_succ, List.getElem?_cons_zero, ↓reduceIte, if_true, if_false, nI_ofNat, true_or, or_true, false_or, or_false, true_and, and_true, false_and, and_false, or_self, and_self, not_true_eq_false, not_false_eq_true, eq_self, List.length_cons, List.length_nil, Nat.reduceAdd, Nat.reduceLT, Nat.reduceSub, List.set_cons_succ, List.set_cons_zero, Option.toList, List.nil_append, List.cons_append, cI_ltT, cI_ltF, cI_leT, cI_leF, cI_eqT, cI_eqF, cI_cl, cN_leT, cN_leF, cN_ltT, cN_ltF, cN_eqT, cN_eqF, cI_add, cI_sub, cI_m1a, cI_m1b, cI_m1c, cI_m1d, cI_m1e, cI_m1f, nb_R, hrs]
  | succ m ih =>
    intro i L l5 l6 hi hli
    have hil : i < row.length := by omega
    have hro := hrow i hil
    have hkk := of_decide_eq_true (hkn i hil)
    have hmem : row.getD i 0 ∈ row.drop l.length := by
      have : row.getD i 0 ∈ row.drop i := by rw [drop_cons hil]; exact List.mem_cons_self
      have e2 : row.drop i = (row.drop l.length).drop (i - l.length) := by rw [List.drop_drop]; congr 1; omega
      rw [e2] at this
      exact List.mem_of_mem_drop this
    have hps := hpos _ hmem
    rw [drop_cons hil]
    generalize row.getD i 0 = y at hro hkk hps ⊢
    by_cases c : 100 ≤ y
    · obtain ⟨x, x1, x2, x3⟩ := hps c
      have er : rhs A e l at_ (y :: row.drop (i + 1)) = sl e x (te A e x) ++ rhs A e l at_ (row.drop (i + 1)) := by
        simp only [rhs, List.flatMap_cons, if_pos c, x1, Option.getD_some]
      rw [er, ← List.append_assoc]
      obtain ⟨x5, x6, i1⟩ := ih (i + 1) (L ++ sl e x (te A e x)) (some (.int (nI y))) (some (.int (nI x))) (by omega) (by omega)
      have hAn : ∀ L, arl A ns ((nb s L T).2.1 2) := fun L => by rw [nb_R (by decide)]; exact hA
      have hen : ∀ L, rowl e ((nb s L T).2.1 34) := fun L => by rw [nb_R (by decide)]; exact c2
      have ge := fun L Q => m_X11_endOf (d := d) (Q := Q) (h := h) (q := q) (s := nb s L T) rl_34 (hAn L) c3 (by omega) (hen L) (kn1_kno hk1) (hac x x2) (by omega)
      have ga := fun L Q => m_X11_giveAll (d := d) (Q := Q) (h := h) (q := q) (s := s) (L := L) (T := T) (v := -1) hB c2 c3 (a := x) (b := te A e x) (te_ge A e x) (te_le A e (by omega))
      simp only [sbx_m1s hns hk1] at ga
      refine ⟨x5, x6, fun Q => ?_⟩
      refine Eq.trans ?_ (s_X11_use_174.trans (i1 Q))
      simp (disch := first | exact ae_isR_ref _ | exact ae_isR_null | exact ae_isR_rf _ | exact ae_cat_ref _ | exact ae_cat_int _ | exact ae_cat_null | exact ae_cat_rf _ | exact ae_nz0 | exact ae_nz1 | exact ae_fz0 | exact ae_fz1 | exact cI_na (by omega) | exact cI_ix (by omega) | exact cI_nn (by omega) | exact cI_nz (by omega) | exact cI_cp (by omega) | assumption | omega) only [s_X11_use_104, s_X11_use_106, s_X11_use_107, s_X11_use_110, s_X11_use_111, s_X11_use_112, s_X11_use_115, s_X11_use_116, s_X11_use_119, s_X11_use_120, s_X11_use_121, s_X11_use_123, s_X11_use_124, s_X11_use_126, s_X11_use_128, s_X11_use_130, s_X11_use_133, s_X11_use_134, s_X11_use_137, s_X11_use_139, s_X11_use_141, s_X11_use_142, s_X11_use_143, s_X11_use_145, s_X11_use_146, s_X11_use_148, s_X11_use_149, s_X11_use_150, s_X11_use_153, s_X11_use_155 rl_0, s_X11_use_158, s_X11_use_159 rl_0, s_X11_use_162, s_X11_use_165, s_X11_use_166, s_X11_use_168 rl_0, s_X11_use_171, rg_0, rg_1, rg_2, rg_3, rg_4, rg_5, rg_6, rg_7, rg_8, rg_9, rg_10, rg_11, rg_12, rg_13, rg_14, rg_15, rg_16, rg_17, rg_18, rg_19, rg_20, rg_21, rg_22, rg_23, rg_24, rg_25, rg_26, rg_27, rg_28, rg_29, rg_30, rg_31, rg_32, rg_33, rg_34, rg_35, rg_36, rg_37, rg_38, rg_39, rg_40, rg_41, rg_42, rg_43, rg_44, rg_45, rg_46, rg_47, rg_48, rg_49, rg_50, rg_51, rg_52, rp_0, rp_4, rp_5, rp_14, rp_15, rp_26, rp_29, rp_30, rp_31, rp_32, rp_33, rp_35, rp_36, rp_38, rp_39, rp_41, rp_42, rp_44, rp_45, rp_47, rp_51, rz_1, rs_1, rz_2, rs_2, rz_3, rs_3, rz_6, rzW_6, rsW_6, rz_7, rs_7, rz_8, rs_8, rz_9, rzW_9, rsW_9, rz_10, rs_10, rz_11, rs_11, rz_12, rs_12, rz_13, rs_13, rz_16, rs_16, rz_17, rs_17, rz_18, rs_18, rz_19, rs_19, rz_20, rs_20, rz_21, rzW_21, rsW_21, rz_22, rs_22, rz_23, rs_23, rz_24, rs_24, rz_25, rs_25, rz_27, rzW_27, rsW_27, rz_28, rs_28, rz_34, rs_34, rz_37, rs_37, rz_40, rs_40, rz_43, rs_43, rz_46, rs_46, rz_48, rs_48, rz_49, rs_49, rz_50, rs_50, rz_52, rs_52, uI_1, uI_2, uR_1, uR_21, uR_22, uW_1, uW_21, uW_22, uW_3, uJ_1, uJ_21, uJ_22, uJ_3, rh_2, va_rf, Bool.false_eq_true, ae_Ki, ae_Kb, ae_Kj, ae_Ka, ae_Si, ae_Sb, ae_Sj, ae_Sn, List.getElem?_cons_succ, List.getElem?_cons_zero, ↓reduceIte, if_true, if_false, nI_ofNat, true_or, or_true, false_or, or_false, true_and, and_true, false_and, and_false, or_self, and_self, not_true_eq_false, not_false_eq_true, eq_self, List.length_cons, List.length_nil, Nat.reduceAdd, Nat.reduceLT, Nat.reduceSub, List.set_cons_succ, List.set_cons_zero, Option.toList, List.nil_append, List.cons_append, cI_ltT, cI_ltF, cI_leT, cI_leF, cI_eqT, cI_eqF, cI_cl, cN_leT, cN_leF, cN_ltT, cN_ltF, cN_eqT, cN_eqF, cI_add, cI_sub, cI_m1a, cI_m1b, cI_m1c, cI_m1d, cI_m1e, cI_m1f, nb_R, nb_2, hrs, hro, x3, ge, ga]
    · have er : rhs A e l at_ (y :: row.drop (i + 1)) = [y] ++ rhs A e l at_ (row.drop (i + 1)) := by
        simp only [rhs, List.flatMap_cons, if_neg c]
      rw [er, ← List.append_assoc]
      obtain ⟨x5, x6, i1⟩ := ih (i + 1) (L ++ [y]) (some (.int (nI y))) l6 (by omega) (by omega)
      refine ⟨x5, x6, fun Q => ?_⟩
      refine Eq.trans ?_ (s_X11_use_174.trans (i1 Q))
      simp (disch := first | exact ae_isR_ref _ | exact ae_isR_null | exact ae_isR_rf _ | exact ae_cat_ref _ | exact ae_cat_int _ | exact ae_cat_null | exact ae_cat_rf _ | exact ae_nz0 | exact ae_nz1 | exact ae_fz0 | exact ae_fz1 | exact cI_na (by omega) | exact cI_ix (by omega) | exact cI_nn (by omega) | exact cI_nz (by omega) | exact cI_cp (by omega) | assumption | omega) only [s_X11_use_104, s_X11_use_106, s_X11_use_107, s_X11_use_110, s_X11_use_111, s_X11_use_112, s_X11_use_115, s_X11_use_116, s_X11_use_119, s_X11_use_120, s_X11_use_121, s_X11_use_123, s_X11_use_124, s_X11_use_126, s_X11_use_128, s_X11_use_130, s_X11_use_133, s_X11_use_134, s_X11_use_137, s_X11_use_139, s_X11_use_141, s_X11_use_142, s_X11_use_143, s_X11_use_145, s_X11_use_146, s_X11_use_148, s_X11_use_149, s_X11_use_150, s_X11_use_153, s_X11_use_155 rl_0, s_X11_use_158, s_X11_use_159 rl_0, s_X11_use_162, s_X11_use_165, s_X11_use_166, s_X11_use_168 rl_0, s_X11_use_171, rg_0, rg_1, rg_2, rg_3, rg_4, rg_5, rg_6, rg_7, rg_8, rg_9, rg_10, rg_11, rg_12, rg_13, rg_14, rg_15, rg_16, rg_17, rg_18, rg_19, rg_20, rg_21, rg_22, rg_23, rg_24, rg_25, rg_26, rg_27, rg_28, rg_29, rg_30, rg_31, rg_32, rg_33, rg_34, rg_35, rg_36, rg_37, rg_38, rg_39, rg_40, rg_41, rg_42, rg_43, rg_44, rg_45, rg_46, rg_47, rg_48, rg_49, rg_50, rg_51, rg_52, rp_0, rp_4, rp_5, rp_14, rp_15, rp_26, rp_29, rp_30, rp_31, rp_32, rp_33, rp_35, rp_36, rp_38, rp_39, rp_41, rp_42, rp_44, rp_45, rp_47, rp_51, rz_1, rs_1, rz_2, rs_2, rz_3, rs_3, rz_6, rzW_6, rsW_6, rz_7, rs_7, rz_8, rs_8, rz_9, rzW_9, rsW_9, rz_10, rs_10, rz_11, rs_11, rz_12, rs_12, rz_13, rs_13, rz_16, rs_16, rz_17, rs_17, rz_18, rs_18, rz_19, rs_19, rz_20, rs_20, rz_21, rzW_21, rsW_21, rz_22, rs_22, rz_23, rs_23, rz_24, rs_24, rz_25, rs_25, rz_27, rzW_27, rsW_27, rz_28, rs_28, rz_34, rs_34, rz_37, rs_37, rz_40, rs_40, rz_43, rs_43, rz_46, rs_46, rz_48, rs_48, rz_49, rs_49, rz_50, rs_50, rz_52, rs_52, uI_1, uI_2, uR_1, uR_21, uR_22, uW_1, uW_21, uW_22, uW_3, uJ_1, uJ_21, uJ_22, uJ_3, rh_2, va_rf, Bool.false_eq_true, ae_Ki, ae_Kb, ae_Kj, ae_Ka, ae_Si, ae_Sb, ae_Sj, ae_Sn, List.getElem?_cons_succ, List.getElem?_cons_zero, ↓reduceIte, if_true, if_false, nI_ofNat, true_or, or_true, false_or, or_false, true_and, and_true, false_and, and_false, or_self, and_self, not_true_eq_false, not_false_eq_true, eq_self, List.length_cons, List.length_nil, Nat.reduceAdd, Nat.reduceLT, Nat.reduceSub, List.set_cons_succ, List.set_cons_zero, Option.toList, List.nil_append, List.cons_append, cI_ltT, cI_ltF, cI_leT, cI_leF, cI_eqT, cI_eqF, cI_cl, cN_leT, cN_leF, cN_ltT, cN_ltF, cN_eqT, cN_eqF, cI_add, cI_sub, cI_m1a, cI_m1b, cI_m1c, cI_m1d, cI_m1e, cI_m1f, nb_R, nb_2, hrs, hro, m_X11_give]
/-- rules that may be used: known symbols; the right side's variables stand at the left -/
def rgu (ns : Nat) (rl : mR) : Prop := ∀ r, r < rl.length → (∀ i, i < (rat rl r).1.length → knw ns ((rat rl r).1.getD i 0) = true) ∧ (∀ y, y ∈ (rat rl r).1.drop (rat rl r).2 → 100 ≤ y → y ∈ (rat rl r).1.take (rat rl r).2) ∧ (rat rl r).2 ≤ (rat rl r).1.length
theorem m_X11_use {r at_ : Nat} (hg : rgo ns A rl) (hgu : rgu ns rl) (hw : wfq ns A (e, a, mn, fr)) (hx : rX s A F ns rl) (hv : rSv s v) (hcu : rCur s e a mn fr) (hr : r < rl.length) (hat : at_ < e.length) (hm : mtc A e (hpl ((rat rl r).1.take (rat rl r).2)) at_) : ∃ s2, (∀ Q, ae_wm (d + 2) mX11_use [.ref q, .int (nI r), .int (nI at_)] (rh h q s) Q = Q none (rh h q s2)) ∧ rSv s2 (usm A e a mn fr v (rat rl r) at_) ∧ frm s s2 SI SR SW := by
  obtain ⟨wl, wm⟩ := wfq_ans hw
  obtain ⟨w1, w2, w3, w4, w5, w6, w7⟩ := hw
  dsimp only at w1 w2 w3 w4 w5 w6 w7 wl wm
  have hac := rn_acm w3
  have hx0 := hx
  obtain ⟨⟨hA, hrr, hn⟩, hF⟩ := hx0
  have hns := hA.1
  obtain ⟨r1, r2, r3⟩ := hrr
  obtain ⟨r4, r5, r6⟩ := r3 r hr
  obtain ⟨u1, u2, u3⟩ := hgu r hr
  obtain ⟨g1, g2, g3, g4⟩ := hg.2 r hr
  generalize hrow : (rat rl r).1 = row at *
  generalize hls : (rat rl r).2 = ls at *
  have hrx : rat rl r = (row, ls) := by rw [← hrow, ← hls]
  have hll : (row.take ls).length = ls := by rw [List.length_take]; omega
  have hf1 : frm s (uI s 32 (s.1 32 + nI 1)) [32] [] [] := frm_uI _ _ _
  have hv1 : rSv (uI s 32 (s.1 32 + nI 1)) (v.1, v.2.1, v.2.2.1, v.2.2.2.1, v.2.2.2.2.1 + nI 1, v.2.2.2.2.2) := by
    obtain ⟨v1, v2, v3, v4, v5, v6⟩ := hv
    refine ⟨rWait_frm hf1 (by decide) (by decide) (by decide) v1, rSol_frm hf1 (by decide) (by decide) v2, v3, v4, ?_, v6⟩
    show (uI s 32 (s.1 32 + nI 1)).1 32 = _
    rw [uI_1, if_pos rfl, v5]
  obtain ⟨x3, k1⟩ := m_X11_use_match (d := d) (h := h) (q := q) (s := uI s 32 (s.1 32 + nI 1)) (r := r) (at_ := at_) (l := row.take ls) (row := row) hcu hA w1 hac (by omega) r4 (by rw [hll]; exact r5) (by rw [hll]) g1 u1 hns (l5 := none) (l6 := none) ls 0 at_ (s.2.1 48) (by rw [hll]; omega) (by omega) (by rw [List.drop_zero]; exact hm)
  rw [show uR (uI s 32 (s.1 32 + nI 1)) 48 (s.2.1 48) = uI s 32 (s.1 32 + nI 1) from uR_same (uI s 32 (s.1 32 + nI 1)) 48, List.drop_zero, hll] at k1
  have hmp : ∀ y, y ∈ row.drop ls → 100 ≤ y → ∃ x, mp2 A e (row.take ls) at_ y = some x ∧ x < e.length ∧ mpl A e (row.take ls) at_ (s.2.1 48) (y - 100) = nI x := by
    intro y hy hy1
    obtain ⟨x, x1, x2⟩ := mp2_in (A := A) (e := e) (row.take ls) at_ y (fun z hz => by
      have := kn1_mem hns g2 z (List.mem_of_mem_take hz)
      obtain ⟨t, ht, et⟩ := List.mem_iff_getElem.mp (List.mem_of_mem_take hz)
      have h2 := g2 t ht
      rw [List.getD_eq_getElem?_getD, List.getElem?_eq_getElem ht] at h2
      simp only [Option.getD_some, et] at h2
      omega) hm (u2 y hy hy1) hy1
    refine ⟨x, x1, x2, ?_⟩
    rw [mpl_eq _ _ _ _ hy1, x1]
  generalize hgp : mpl A e (row.take ls) at_ (s.2.1 48) = gp at *
  have hfB : frm s (uI (uI (uR (uI s 32 (s.1 32 + nI 1)) 48 gp) 42 (nI 0)) 47 (nI 0)) [32, 42, 47] [48] [] := frm_trans (frm_mono hf1 (by simp) (by simp) (by simp)) (frm_trans (frm_mono (frm_uR _ _ _) (by simp) (by simp) (by simp)) (frm_trans (frm_mono (frm_uI _ _ _) (by simp) (by simp) (by simp)) (frm_mono (frm_uI _ _ _) (by simp) (by simp) (by simp))))
  have hvB : rSv (uI (uI (uR (uI s 32 (s.1 32 + nI 1)) 48 gp) 42 (nI 0)) 47 (nI 0)) (v.1, v.2.1, v.2.2.1, v.2.2.2.1, v.2.2.2.2.1 + nI 1, v.2.2.2.2.2) := rSv_frm (frm_uI _ _ _) (by decide) (by decide) (by decide) (rSv_frm (frm_uI _ _ _) (by decide) (by decide) (by decide) (rSv_frm (frm_uR _ _ _) (by decide) (by decide) (by decide) hv1))
  have hbB : rBd (uI (uI (uR (uI s 32 (s.1 32 + nI 1)) 48 gp) 42 (nI 0)) 47 (nI 0)) [] := ⟨by simp [uI], fun i hi => by simp at hi, by simp⟩
  have hcB := rCur_frm hfB (by decide) (by decide) hcu
  have eB : ∀ L T, uI (nb (uI (uR (uI s 32 (s.1 32 + nI 1)) 48 gp) 42 (nI 0)) L T) 47 (nI 0) = nb (uI (uI (uR (uI s 32 (s.1 32 + nI 1)) 48 gp) 42 (nI 0)) 47 (nI 0)) L T := fun L T => nb_uI (by decide)
  have hgB : (uI (uI (uR (uI s 32 (s.1 32 + nI 1)) 48 gp) 42 (nI 0)) 47 (nI 0)).2.1 48 = gp := by simp [uI, uR]
  have gb := fun Q => m_X11_beginNew (d := d + 1) (Q := Q) (h := h) (q := q) (s := uR (uI s 32 (s.1 32 + nI 1)) 48 gp)
  generalize hsB : uI (uI (uR (uI s 32 (s.1 32 + nI 1)) 48 gp) 42 (nI 0)) 47 (nI 0) = sB at *
  have hAB : arl A ns (sB.2.1 2) := by rw [hfB.2.1 2 (by decide)]; exact hA
  have h7B : sB.2.1 7 r = nI ls := by rw [hfB.2.1 7 (by decide)]; exact r5
  obtain ⟨t1, t2, t3, t4, t5⟩ : at_ < te A e at_ ∧ te A e at_ ≤ e.length ∧ cmp A e (e.length - at_) 1 at_ ∧ True ∧ True := ⟨te_gt hat, te_le A e (by omega), hac at_ hat, trivial, trivial⟩
  have ga0 := fun Q => m_X11_giveAll (d := d) (Q := Q) (h := h) (q := q) (s := sB) (L := []) (T := []) (v := -1) hbB hcB.1.2.1 hcB.1.2.2 (a := 0) (b := at_) (by omega) (by omega)
  rw [sbx_m1s hns w1, List.nil_append] at ga0
  obtain ⟨x5, x6, k2⟩ := m_X11_use_give (d := d) (h := h) (q := q) (s := sB) (r := r) (at_ := at_) (l := row.take ls) (row := row) (T := []) hcB hbB hAB w1 hac (by omega) (by rw [hfB.2.2 6 (by decide)]; exact r4) (by rw [hfB.2.1 8 (by decide)]; exact r6) g1 u1 hns (by rw [hll, hgB]; exact hmp) (l3 := x3) (row.length - ls) ls (sl e 0 at_) none none (by omega) (by omega)
  have hAn : ∀ L, arl A ns ((nb sB L []).2.1 2) := fun L => by rw [nb_R (by decide)]; exact hAB
  have hen : ∀ L, rowl e ((nb sB L []).2.1 34) := fun L => by rw [nb_R (by decide)]; exact hcB.1.2.1
  have ge := fun L Q => m_X11_endOf (d := d) (Q := Q) (h := h) (q := q) (s := nb sB L []) rl_34 (hAn L) hcB.1.2.2 (by omega) (hen L) (kn1_kno w1) t3 (by omega)
  have ga1 := fun L Q => m_X11_giveAll (d := d) (Q := Q) (h := h) (q := q) (s := sB) (L := L) (T := []) (v := -1) hbB hcB.1.2.1 hcB.1.2.2 (a := te A e at_) (b := e.length) t2 (by omega)
  simp only [sbx_m1s hns w1] at ga1
  have ga2 := fun L Q => m_X11_giveAnswers (d := d) (Q := Q) (h := h) (q := q) (s := sB) (L := L) (T := []) (v := -1) hbB hcB.2.2.1.2.1 hcB.2.2.1.2.2 hcB.2.2.1.1
  simp only [sbx_m1a hns w2, List.nil_append] at ga2
  have hv4 : rSv (uI sB 42 (nI mn)) (v.1, v.2.1, v.2.2.1, v.2.2.2.1, v.2.2.2.2.1 + nI 1, v.2.2.2.2.2) := rSv_frm (frm_uI _ _ _) (by decide) (by decide) (by decide) hvB
  obtain ⟨s5, z1, z2, z3⟩ := m_X11_keepM (d := d + 1) (h := h) (q := q) (L := sl e 0 at_ ++ (rhs A e (row.take ls) at_ (row.drop ls) ++ sl e (te A e at_) e.length)) (T := a) (mn := mn) (nx := fr) hv4 (by simp [uI]) (by omega) (by omega)
  refine ⟨nb s5 (sl e 0 at_ ++ (rhs A e (row.take ls) at_ (row.drop ls) ++ sl e (te A e at_) e.length)) a, fun Q => ?_, rSv_frm (nb_frm _ _ _) (by decide) (by decide) (by decide) (by rw [hrx]; exact z2), frm_trans (frm_mono hfB (by decide) (by decide) (by decide)) (frm_trans (frm_mono (frm_uI _ _ _) (by decide) (by decide) (by decide)) (frm_trans (frm_mono z3 (by decide) (by decide) (by decide)) (frm_mono (nb_frm _ _ _) (by decide) (by decide) (by decide))))⟩
  have q35 : sB.1 35 = nI e.length := hcB.1.1
  have q36 : sB.1 36 = nI mn := hcB.2.1
  have q39 : sB.1 39 = nI fr := hcB.2.2.2
  simp (disch := first | exact ae_isR_ref _ | exact ae_isR_null | exact ae_isR_rf _ | exact ae_cat_ref _ | exact ae_cat_int _ | exact ae_cat_null | exact ae_cat_rf _ | exact ae_nz0 | exact ae_nz1 | exact ae_fz0 | exact ae_fz1 | exact cI_na (by omega) | exact cI_ix (by omega) | exact cI_nn (by omega) | exact cI_nz (by omega) | exact cI_cp (by omega) | assumption | omega) only [s_X11_use_0, s_X11_use_1, s_X11_use_2, s_X11_use_5, s_X11_use_6, s_X11_use_7, s_X11_use_10, s_X11_use_11, s_X11_use_12, s_X11_use_13, e_X11_use, k1, s_X11_use_80, s_X11_use_81 rl_0, s_X11_use_84, s_X11_use_85, s_X11_use_86, s_X11_use_89, s_X11_use_90, s_X11_use_91, s_X11_use_92, s_X11_use_93 rl_0, s_X11_use_96, s_X11_use_97, s_X11_use_100, s_X11_use_101, s_X11_use_102, k2, s_X11_use_177, s_X11_use_178, s_X11_use_179, s_X11_use_180, s_X11_use_183, s_X11_use_184 rl_0, s_X11_use_187, s_X11_use_188, s_X11_use_191, s_X11_use_192 rl_0, s_X11_use_195, s_X11_use_196, s_X11_use_197 rl_0, s_X11_use_200, s_X11_use_201, s_X11_use_202, s_X11_use_205, s_X11_use_208, s_X11_use_209, s_X11_use_210, s_X11_use_213 rl_0, s_X11_use_216, rg_0, rg_1, rg_2, rg_3, rg_4, rg_5, rg_6, rg_7, rg_8, rg_9, rg_10, rg_11, rg_12, rg_13, rg_14, rg_15, rg_16, rg_17, rg_18, rg_19, rg_20, rg_21, rg_22, rg_23, rg_24, rg_25, rg_26, rg_27, rg_28, rg_29, rg_30, rg_31, rg_32, rg_33, rg_34, rg_35, rg_36, rg_37, rg_38, rg_39, rg_40, rg_41, rg_42, rg_43, rg_44, rg_45, rg_46, rg_47, rg_48, rg_49, rg_50, rg_51, rg_52, rp_0, rp_4, rp_5, rp_14, rp_15, rp_26, rp_29, rp_30, rp_31, rp_32, rp_33, rp_35, rp_36, rp_38, rp_39, rp_41, rp_42, rp_44, rp_45, rp_47, rp_51, rz_1, rs_1, rz_2, rs_2, rz_3, rs_3, rz_6, rzW_6, rsW_6, rz_7, rs_7, rz_8, rs_8, rz_9, rzW_9, rsW_9, rz_10, rs_10, rz_11, rs_11, rz_12, rs_12, rz_13, rs_13, rz_16, rs_16, rz_17, rs_17, rz_18, rs_18, rz_19, rs_19, rz_20, rs_20, rz_21, rzW_21, rsW_21, rz_22, rs_22, rz_23, rs_23, rz_24, rs_24, rz_25, rs_25, rz_27, rzW_27, rsW_27, rz_28, rs_28, rz_34, rs_34, rz_37, rs_37, rz_40, rs_40, rz_43, rs_43, rz_46, rs_46, rz_48, rs_48, rz_49, rs_49, rz_50, rs_50, rz_52, rs_52, uI_1, uI_2, uR_1, uR_21, uR_22, uW_1, uW_21, uW_22, uW_3, uJ_1, uJ_21, uJ_22, uJ_3, rh_2, va_rf, Bool.false_eq_true, ae_Ki, ae_Kb, ae_Kj, ae_Ka, ae_Si, ae_Sb, ae_Sj, ae_Sn, List.getElem?_cons_succ, List.getElem?_cons_zero, ↓reduceIte, if_true, if_false, nI_ofNat, true_or, or_true, false_or, or_false, true_and, and_true, false_and, and_false, or_self, and_self, not_true_eq_false, not_false_eq_true, eq_self, List.length_cons, List.length_nil, Nat.reduceAdd, Nat.reduceLT, Nat.reduceSub, List.set_cons_succ, List.set_cons_zero, Option.toList, List.nil_append, List.cons_append, cI_ltT, cI_ltF, cI_leT, cI_leF, cI_eqT, cI_eqF, cI_cl, cN_leT, cN_leF, cN_ltT, cN_ltF, cN_eqT, cN_eqF, cI_add, cI_sub, cI_m1a, cI_m1b, cI_m1c, cI_m1d, cI_m1e, cI_m1f, gb, eB, ga0, ge, ga1, ga2, nb_I, nb_R, nb_uI, q35, q36, q39, h7B, z1, List.append_assoc]
end REFI
