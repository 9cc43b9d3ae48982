/-! NarrowSolverModel: layTree -/
def rNd (s : rS) (i : Nat) (x : nd) : Prop := s.2.1 16 i = nI x.1 ∧ s.2.1 17 i = nI x.2.1 ∧ s.2.1 18 i = nI x.2.2.1 ∧ s.2.1 19 i = x.2.2.2.1 ∧ s.2.1 20 i = nI x.2.2.2.2
def nat (L : List nd) (i : Nat) : nd := L.getD i (0, 0, 0, 0, 0)
def ndb (n : Nat) (s s2 : rS) : Prop := ∀ i, i < n → s2.2.1 16 i = s.2.1 16 i ∧ s2.2.1 17 i = s.2.1 17 i ∧ s2.2.1 18 i = s.2.1 18 i ∧ s2.2.1 19 i = s.2.1 19 i ∧ s2.2.1 20 i = s.2.1 20 i
theorem ndb_refl (n : Nat) (s : rS) : ndb n s s := fun _ _ => ⟨rfl, rfl, rfl, rfl, rfl⟩
theorem ndb_trans {m : Nat} {s s2 s3 : rS} (h1 : ndb m s s2) (h2 : ndb m s2 s3) : ndb m s s3 := fun i hi => by
  obtain ⟨a1, a2, a3, a4, a5⟩ := h1 i hi
  obtain ⟨b1, b2, b3, b4, b5⟩ := h2 i hi
  exact ⟨b1.trans a1, b2.trans a2, b3.trans a3, b4.trans a4, b5.trans a5⟩
theorem ndb_mono {m m2 : Nat} {s s2 : rS} (h : ndb m s s2) (h2 : m2 ≤ m) : ndb m2 s s2 := fun i hi => h i (by omega)
theorem rNd_ndb {m i : Nat} {s s2 : rS} {x : nd} (h : ndb m s s2) (hi : i < m) (hx : rNd s i x) : rNd s2 i x := by
  obtain ⟨a1, a2, a3, a4, a5⟩ := h i hi
  obtain ⟨b1, b2, b3, b4, b5⟩ := hx
  exact ⟨a1.trans b1, a2.trans b2, a3.trans b3, a4.trans b4, a5.trans b5⟩
abbrev l6t : Type := Option Value × Option Value × Option Value × Option Value × Option Value × Option Value
def lcs (q f0 : Nat) (S0 : Int64) (v : l6t) : List (Option Value) := [some (.ref q), some (.int (nI f0)), some (.long S0), none, v.1, v.2.1, v.2.2.1, v.2.2.2.1, v.2.2.2.2.1, v.2.2.2.2.2]
/-- what the loop does with what lies on the stack from m on -/
def ltP (d : Nat) (h : ah_H) (q f0 : Nat) (S0 : Int64) (m n : Nat) (s : rS) (o : Option (List nd)) : Prop := ∀ v : l6t, ∃ s2, frm s s2 FI FR FW ∧ blw m s s2 ∧ ndb n s s2 ∧ match o with
  | none => ∀ Q, ae_wp (d + 5) mX11_layTree 49 (lcs q f0 S0 v) [] (rh h q s) Q = Q (some (.int (nI 0))) (rh h q s2)
  | some L => s2.1 14 = nI m ∧ s2.1 15 = nI (n + L.length) ∧ (∀ i, i < L.length → rNd s2 (n + i) (nat L i)) ∧ ∃ v2, ∀ Q, ae_wp (d + 5) mX11_layTree 49 (lcs q f0 S0 v) [] (rh h q s) Q = ae_wp (d + 5) mX11_layTree 49 (lcs q f0 S0 v2) [] (rh h q s2) Q
theorem nat_app1 {L M : List nd} {i : Nat} (h : i < L.length) : nat (L ++ M) i = nat L i := by
  simp [nat, List.getD_eq_getElem?_getD, List.getElem?_append_left h]
theorem nat_app2 {L M : List nd} {i : Nat} (h : L.length ≤ i) : nat (L ++ M) i = nat M (i - L.length) := by
  simp [nat, List.getD_eq_getElem?_getD, List.getElem?_append_right h]
section REFY
variable {d : Nat} {Q : Option Value → ah_H → Prop} {h : ah_H} {q : Nat} {s : rS} {A : Nat → Nat} {ns : Nat} {p : List Nat} {rl : mR} {S S0 : Int64} {f0 : Nat}
theorem m_X11_lt_kids {g : List Nat → Int64 → Nat → Int32 → Nat → Option (List nd)} {u : Nat → List Nat × Int64} {par : Int32} : ∀ (cs : List Nat) (m n ord : Nat) (s : rS), (∀ c, c ∈ cs → ∀ (m n ord : Nat) (s : rS), rU s A ns rl → s.1 14 = nI (m + 1) → s.1 15 = nI n → rSk s m (u c) par ord → m + crd rl (u c).2 ≤ 45 → n + ph A rl (u c).1 (u c).2 ≤ 5000 → ltP d h q f0 S0 m n s (g (u c).1 (u c).2 n par ord) ∧ ∀ L, g (u c).1 (u c).2 n par ord = some L → L.length ≤ ph A rl (u c).1 (u c).2) → (∀ c, c ∈ cs → 0 < crd rl (u c).2) → rU s A ns rl → s.1 14 = nI (m + cs.length) → s.1 15 = nI n → (∀ i, i < cs.length → rSk s (m + cs.length - 1 - i) (u (cs.getD i 0)) par (ord + i)) → m + (cs.map (fun c => crd rl (u c).2)).sum ≤ 45 → n + (cs.map (fun c => ph A rl (u c).1 (u c).2)).sum ≤ 5000 → ltP d h q f0 S0 m n s (layL g u cs n par ord) := by
  intro cs
  induction cs with
  | nil =>
    intro m n ord s _ _ hu h14 h15 _ _ _ v
    exact ⟨s, frm_refl _ _ _ _, blw_refl _ _, ndb_refl _ _, h14, h15, fun i hi => by simp at hi, v, fun Q => rfl⟩
  | cons c cs ih =>
    intro m n ord s hg hcr hu h14 h15 hst hb1 hb2 v
    simp only [List.map_cons, List.sum_cons, List.length_cons] at hb1 hb2 h14 hst
    have hcl : cs.length ≤ (cs.map (fun c => crd rl (u c).2)).sum := by
      clear ih hg h14 hst hb1 hb2
      induction cs with
      | nil => simp
      | cons x cs ih2 =>
        have h1 := ih2 (fun c' hc' => hcr c' (by
          simp only [List.mem_cons] at hc' ⊢
          rcases hc' with e | e
          · exact Or.inl e
          · exact Or.inr (Or.inr e)))
        have h2 := hcr x (by simp)
        simp only [List.map_cons, List.sum_cons, List.length_cons]
        omega
    have hc0 := hst 0 (by omega)
    rw [show m + (cs.length + 1) - 1 - 0 = m + cs.length by omega, Nat.add_zero] at hc0
    obtain ⟨k1, k2⟩ := hg c (by simp) (m + cs.length) n ord s hu (by rw [h14, Nat.add_assoc]) h15 hc0 (by omega) (by omega)
    obtain ⟨s2, f1, f2, f3, f4⟩ := k1 v
    simp only [layL]
    cases e : g (u c).1 (u c).2 n par ord with
    | none =>
      rw [e] at f4
      exact ⟨s2, f1, blw_mono f2 (by omega), f3, f4⟩
    | some L =>
      rw [e] at f4
      obtain ⟨f5, f6, f7, v2, f8⟩ := f4
      have hL := k2 L e
      have hu2 := rU_frm f1 hu
      obtain ⟨s3, j1, j2, j3, j4⟩ := ih m (n + L.length) (ord + 1) s2 (fun c hc => hg c (by simp [hc])) (fun c hc => hcr c (by simp [hc])) hu2 f5 f6 (fun i hi => by
        have := hst (i + 1) (by omega)
        rw [show m + (cs.length + 1) - 1 - (i + 1) = m + cs.length - 1 - i by omega, show ord + (i + 1) = ord + 1 + i by omega] at this
        exact rSk_blw f2 (by omega) (by simpa using this)) (by omega) (by omega) v2
      have hblw : blw m s s3 := blw_trans (blw_mono f2 (by omega)) j2
      have hndb : ndb n s s3 := ndb_trans f3 (ndb_mono j3 (by omega))
      dsimp only
      cases e2 : layL g u cs (n + L.length) par (ord + 1) with
      | none =>
        rw [e2] at j4
        exact ⟨s3, frm_trans f1 j1, hblw, hndb, fun Q => (f8 Q).trans (j4 Q)⟩
      | some M =>
        rw [e2] at j4
        obtain ⟨j5, j6, j7, v3, j8⟩ := j4
        refine ⟨s3, frm_trans f1 j1, hblw, hndb, j5, by rw [j6, List.length_append, Nat.add_assoc], fun i hi => ?_, v3, fun Q => (f8 Q).trans (j8 Q)⟩
        by_cases c1 : i < L.length
        · rw [nat_app1 c1]
          exact rNd_ndb j3 (by omega) (f7 i c1)
        · rw [nat_app2 (by omega)]
          have := j7 (i - L.length) (by rw [List.length_append] at hi; omega)
          rw [show n + L.length + (i - L.length) = n + i by omega] at this
          exact this
/-- the pattern is taken from the stack -/
theorem m_X11_lt_copy {m : Nat} (hm : s.1 14 = nI m) (hm2 : m < 64) (hr : rowl p (s.2.2.1 9 m)) (hpl : p.length ≤ 400) {l1 l2 l3 l6 l7 l8 l9 : Option Value} {g : Nat → Int32} : ∀ (t i : Nat), i + t = p.length → ae_wp (d + 5) mX11_layTree 80 [some (.ref q), l1, l2, l3, some (.int (nI p.length)), some (.int (nI i)), l6, l7, l8, l9] [] (rh h q (uR s 52 (lf (p.take i) g))) Q = ae_wp (d + 5) mX11_layTree 112 [some (.ref q), l1, l2, l3, some (.int (nI p.length)), some (.int (nI p.length)), l6, l7, l8, l9] [] (rh h q (uR s 52 (lf p g))) Q := by
  intro t
  induction t with
  | zero =>
    intro i hi
    have e : i = p.length := by omega
    subst e
    rw [List.take_length]
    simp (disch := first | exact ae_isR_ref _ | exact ae_isR_null | exact ae_isR_rf _ | exact ae_cat_ref _ | exact ae_cat_int _ | exact ae_cat_null | exact ae_cat_rf _ | exact ae_nz0 | exact ae_nz1 | exact ae_fz0 | exact ae_fz1 | exact cI_na (by omega) | exact cI_ix (by omega) | exact cI_nn (by omega) | exact cI_nz (by omega) | exact cI_cp (by omega) | assumption | omega) only [s_X11_layTree_80, s_X11_layTree_82, s_X11_layTree_84, rg_0, rg_1, rg_2, rg_3, rg_4, rg_5, rg_6, rg_7, rg_8, rg_9, rg_10, rg_11, rg_12, rg_13, rg_14, rg_15, rg_16, rg_17, rg_18, rg_19, rg_20, rg_21, rg_22, rg_23, rg_24, rg_25, rg_26, rg_27, rg_28, rg_29, rg_30, rg_31, rg_32, rg_33, rg_34, rg_35, rg_36, rg_37, rg_38, rg_39, rg_40, rg_41, rg_42, rg_43, rg_44, rg_45, rg_46, rg_47, rg_48, rg_49, rg_50, rg_51, rg_52, rp_0, rp_4, rp_5, rp_14, rp_15, rp_26, rp_29, rp_30, rp_31, rp_32, rp_33, rp_35, rp_36, rp_38, rp_39, rp_41, rp_42, rp_44, rp_45, rp_47, rp_51, rz_1, rs_1, rz_2, rs_2, rz_3, rs_3, rz_6, rzW_6, rsW_6, rz_7, rs_7, rz_8, rs_8, rz_9, rzW_9, rsW_9, rz_10, rs_10, rz_11, rs_11, rz_12, rs_12, rz_13, rs_13, rz_16, rs_16, rz_17, rs_17, rz_18, rs_18, rz_19, rs_19, rz_20, rs_20, rz_21, rzW_21, rsW_21, rz_22, rs_22, rz_23, rs_23, rz_24, rs_24, rz_25, rs_25, rz_27, rzW_27, rsW_27, rz_28, rs_28, rz_34, rs_34, rz_37, rs_37, rz_40, rs_40, rz_43, rs_43, rz_46, rs_46, rz_48, rs_48, rz_49, rs_49, rz_50, rs_50, rz_52, rs_52, uI_1, uI_2, uR_1, uR_21, uR_22, uW_1, uW_21, uW_22, uW_3, uJ_1, uJ_21, uJ_22, uJ_3, rh_2, va_rf, Bool.false_eq_true, ae_Ki, ae_Kb, ae_Kj, ae_Ka, ae_Si, ae_Sb, ae_Sj, ae_Sn, List.getElem?_cons_succ, List.getElem?_cons_zero, ↓reduceIte, if_true, if_false, nI_ofNat, true_or, or_true, false_or, or_false, true_and, and_true, false_and, and_false, or_self, and_self, not_true_eq_false, not_false_eq_true, eq_self, List.length_cons, List.length_nil, Nat.reduceAdd, Nat.reduceLT, Nat.reduceSub, List.set_cons_succ, List.set_cons_zero, Option.toList, List.nil_append, List.cons_append, cI_ltT, cI_ltF, cI_leT, cI_leF, cI_eqT, cI_eqF, cI_cl, cN_leT, cN_leF, cN_ltT, cN_ltF, cN_eqT, cN_eqF, cI_add, cI_sub, cI_m1a, cI_m1b, cI_m1c, cI_m1d, cI_m1e, cI_m1f]
  | succ t ih =>
    intro i hi
    have hil : i < p.length := by omega
    have e2 := hr i hil
    refine Eq.trans ?_ (s_X11_layTree_109.trans (ih (i + 1) (by omega)))
    have e5 : rh h q (uR s 52 (upd (lf (p.take i) g) i (nI (p.getD i 0)))) = rh h q (uR s 52 (lf (p.take (i + 1)) g)) := by rw [lf_take hil]
    simp (disch := first | exact ae_isR_ref _ | exact ae_isR_null | exact ae_isR_rf _ | exact ae_cat_ref _ | exact ae_cat_int _ | exact ae_cat_null | exact ae_cat_rf _ | exact ae_nz0 | exact ae_nz1 | exact ae_fz0 | exact ae_fz1 | exact cI_na (by omega) | exact cI_ix (by omega) | exact cI_nn (by omega) | exact cI_nz (by omega) | exact cI_cp (by omega) | assumption | omega) only [s_X11_layTree_80, s_X11_layTree_82, s_X11_layTree_84, s_X11_layTree_87, s_X11_layTree_88, s_X11_layTree_91, s_X11_layTree_93, s_X11_layTree_94, s_X11_layTree_97, s_X11_layTree_98, s_X11_layTree_101, s_X11_layTree_102, s_X11_layTree_104, s_X11_layTree_105, s_X11_layTree_106, rg_0, rg_1, rg_2, rg_3, rg_4, rg_5, rg_6, rg_7, rg_8, rg_9, rg_10, rg_11, rg_12, rg_13, rg_14, rg_15, rg_16, rg_17, rg_18, rg_19, rg_20, rg_21, rg_22, rg_23, rg_24, rg_25, rg_26, rg_27, rg_28, rg_29, rg_30, rg_31, rg_32, rg_33, rg_34, rg_35, rg_36, rg_37, rg_38, rg_39, rg_40, rg_41, rg_42, rg_43, rg_44, rg_45, rg_46, rg_47, rg_48, rg_49, rg_50, rg_51, rg_52, rp_0, rp_4, rp_5, rp_14, rp_15, rp_26, rp_29, rp_30, rp_31, rp_32, rp_33, rp_35, rp_36, rp_38, rp_39, rp_41, rp_42, rp_44, rp_45, rp_47, rp_51, rz_1, rs_1, rz_2, rs_2, rz_3, rs_3, rz_6, rzW_6, rsW_6, rz_7, rs_7, rz_8, rs_8, rz_9, rzW_9, rsW_9, rz_10, rs_10, rz_11, rs_11, rz_12, rs_12, rz_13, rs_13, rz_16, rs_16, rz_17, rs_17, rz_18, rs_18, rz_19, rs_19, rz_20, rs_20, rz_21, rzW_21, rsW_21, rz_22, rs_22, rz_23, rs_23, rz_24, rs_24, rz_25, rs_25, rz_27, rzW_27, rsW_27, rz_28, rs_28, rz_34, rs_34, rz_37, rs_37, rz_40, rs_40, rz_43, rs_43, rz_46, rs_46, rz_48, rs_48, rz_49, rs_49, rz_50, rs_50, rz_52, rs_52, uI_1, uI_2, uR_1, uR_21, uR_22, uW_1, uW_21, uW_22, uW_3, uJ_1, uJ_21, uJ_22, uJ_3, rh_2, va_rf, Bool.false_eq_true, ae_Ki, ae_Kb, ae_Kj, ae_Ka, ae_Si, ae_Sb, ae_Sj, ae_Sn, List.getElem?_cons_succ, List.getElem?_cons_zero, ↓reduceIte, if_true, if_false, nI_ofNat, true_or, or_true, false_or, or_false, true_and, and_true, false_and, and_false, or_self, and_self, not_true_eq_false, not_false_eq_true, eq_self, List.length_cons, List.length_nil, Nat.reduceAdd, Nat.reduceLT, Nat.reduceSub, List.set_cons_succ, List.set_cons_zero, Option.toList, List.nil_append, List.cons_append, cI_ltT, cI_ltF, cI_leT, cI_leF, cI_eqT, cI_eqF, cI_cl, cN_leT, cN_leF, cN_ltT, cN_ltF, cN_eqT, cN_eqF, cI_add, cI_sub, cI_m1a, cI_m1b, cI_m1c, cI_m1d, cI_m1e, cI_m1f, hm, e2, uR_uR, e5]
/-- a node is begun -/
def ndS (s : rS) (p : List Nat) (m n : Nat) (par : Int32) (ord : Nat) : rS := uR (uR (uR (uI (uR (uI s 14 (nI m)) 52 (lf p (s.2.1 52))) 15 (nI (n + 1))) 19 (upd (s.2.1 19) n par)) 20 (upd (s.2.1 20) n (nI ord))) 18 (upd (s.2.1 18) n (nI 0))
theorem ndS_frm {p : List Nat} {m n : Nat} {par : Int32} {ord : Nat} : frm s (ndS s p m n par ord) [14, 15] [18, 19, 20, 52] [] := by
  refine ⟨fun t ht => ?_, fun t ht => ?_, fun t ht => rfl⟩
  · simp only [List.mem_cons, List.not_mem_nil, or_false, not_or] at ht
    simp [ndS, uI, uR, ht]
  · simp only [List.mem_cons, List.not_mem_nil, or_false, not_or] at ht
    simp [ndS, uI, uR, ht]
theorem m_X11_lt_pre {m n : Nat} {par : Int32} {ord : Nat} {v : l6t} (h14 : s.1 14 = nI (m + 1)) (h15 : s.1 15 = nI n) (hx : rSk s m (p, S) par ord) (hm : m < 64) (hn : n < 5200) (hpl : p.length ≤ 400) : ∃ l8 l9, ∀ Q, ae_wp (d + 5) mX11_layTree 49 (lcs q f0 S0 v) [] (rh h q s) Q = ae_wp (d + 5) mX11_layTree 179 [some (.ref q), some (.int (nI f0)), some (.long S0), none, some (.int (nI p.length)), some (.long S), none, some (.int (nI n)), l8, l9] [] (rh h q (ndS s p m n par ord)) Q := by
  obtain ⟨x1, x2, x3, x4, x5⟩ := hx
  dsimp only at x1 x2 x3
  obtain ⟨l4, l5, l6, l7, l8, l9⟩ := v
  refine ⟨l8, l9, fun Q => ?_⟩
  have g := fun Q => m_X11_lt_copy (d := d) (Q := Q) (h := h) (q := q) (s := uI s 14 (nI m)) (m := m) rfl hm x1 hpl (l1 := some (.int (nI f0))) (l2 := some (.long S0)) (l3 := none) (l6 := l6) (l7 := l7) (l8 := l8) (l9 := l9) (g := s.2.1 52) p.length 0 (by omega)
  rw [List.take_zero, lf_nil] at g
  rw [show uR (uI s 14 (nI m)) 52 (s.2.1 52) = uI s 14 (nI m) from uR_same (uI s 14 (nI m)) 52] at g
  simp (disch := first | exact ae_isR_ref _ | exact ae_isR_null | exact ae_isR_rf _ | exact ae_cat_ref _ | exact ae_cat_int _ | exact ae_cat_null | exact ae_cat_rf _ | exact ae_nz0 | exact ae_nz1 | exact ae_fz0 | exact ae_fz1 | exact cI_na (by omega) | exact cI_ix (by omega) | exact cI_nn (by omega) | exact cI_nz (by omega) | exact cI_cp (by omega) | assumption | omega) only [lcs, s_X11_layTree_49, s_X11_layTree_50, s_X11_layTree_53, s_X11_layTree_56, s_X11_layTree_57, s_X11_layTree_58, s_X11_layTree_61, s_X11_layTree_62, s_X11_layTree_63, s_X11_layTree_66, s_X11_layTree_67, s_X11_layTree_70, s_X11_layTree_71, s_X11_layTree_74, s_X11_layTree_75, s_X11_layTree_77, s_X11_layTree_78, g, s_X11_layTree_112, s_X11_layTree_113, s_X11_layTree_116, s_X11_layTree_117, s_X11_layTree_120, s_X11_layTree_121, s_X11_layTree_123, s_X11_layTree_124, s_X11_layTree_127, s_X11_layTree_129, s_X11_layTree_130, s_X11_layTree_131, s_X11_layTree_134, s_X11_layTree_135, s_X11_layTree_136, s_X11_layTree_139, s_X11_layTree_140, s_X11_layTree_143, s_X11_layTree_145, s_X11_layTree_146, s_X11_layTree_149, s_X11_layTree_150, s_X11_layTree_153, s_X11_layTree_154, s_X11_layTree_155, s_X11_layTree_156, s_X11_layTree_159, s_X11_layTree_161, s_X11_layTree_162, s_X11_layTree_165, s_X11_layTree_166, s_X11_layTree_169, s_X11_layTree_170, s_X11_layTree_171, s_X11_layTree_172, s_X11_layTree_175, s_X11_layTree_177, s_X11_layTree_178, rg_0, rg_1, rg_2, rg_3, rg_4, rg_5, rg_6, rg_7, rg_8, rg_9, rg_10, rg_11, rg_12, rg_13, rg_14, rg_15, rg_16, rg_17, rg_18, rg_19, rg_20, rg_21, rg_22, rg_23, rg_24, rg_25, rg_26, rg_27, rg_28, rg_29, rg_30, rg_31, rg_32, rg_33, rg_34, rg_35, rg_36, rg_37, rg_38, rg_39, rg_40, rg_41, rg_42, rg_43, rg_44, rg_45, rg_46, rg_47, rg_48, rg_49, rg_50, rg_51, rg_52, rp_0, rp_4, rp_5, rp_14, rp_15, rp_26, rp_29, rp_30, rp_31, rp_32, rp_33, rp_35, rp_36, rp_38, rp_39, rp_41, rp_42, rp_44, rp_45, rp_47, rp_51, rz_1, rs_1, rz_2, rs_2, rz_3, rs_3, rz_6, rzW_6, rsW_6, rz_7, rs_7, rz_8, rs_8, rz_9, rzW_9, rsW_9, rz_10, rs_10, rz_11, rs_11, rz_12, rs_12, rz_13, rs_13, rz_16, rs_16, rz_17, rs_17, rz_18, rs_18, rz_19, rs_19, rz_20, rs_20, rz_21, rzW_21, rsW_21, rz_22, rs_22, rz_23, rs_23, rz_24, rs_24, rz_25, rs_25, rz_27, rzW_27, rsW_27, rz_28, rs_28, rz_34, rs_34, rz_37, rs_37, rz_40, rs_40, rz_43, rs_43, rz_46, rs_46, rz_48, rs_48, rz_49, rs_49, rz_50, rs_50, rz_52, rs_52, uI_1, uI_2, uR_1, uR_21, uR_22, uW_1, uW_21, uW_22, uW_3, uJ_1, uJ_21, uJ_22, uJ_3, rh_2, va_rf, Bool.false_eq_true, ae_Ki, ae_Kb, ae_Kj, ae_Ka, ae_Si, ae_Sb, ae_Sj, ae_Sn, List.getElem?_cons_succ, List.getElem?_cons_zero, ↓reduceIte, if_true, if_false, nI_ofNat, true_or, or_true, false_or, or_false, true_and, and_true, false_and, and_false, or_self, and_self, not_true_eq_false, not_false_eq_true, eq_self, List.length_cons, List.length_nil, Nat.reduceAdd, Nat.reduceLT, Nat.reduceSub, List.set_cons_succ, List.set_cons_zero, Option.toList, List.nil_append, List.cons_append, cI_ltT, cI_ltF, cI_leT, cI_leF, cI_eqT, cI_eqF, cI_cl, cN_leT, cN_leF, cN_ltT, cN_ltF, cN_eqT, cN_eqF, cI_add, cI_sub, cI_m1a, cI_m1b, cI_m1c, cI_m1d, cI_m1e, cI_m1f, h14, h15, x2, x3, x4, x5, Nat.add_sub_cancel, ndS]
theorem m_X11_lt (hg : rgo ns A rl) (hns : ns ≤ 24) (h0 : 0 < ns) (h99 : A 99 = 0) (hA3 : ∀ x, A x ≤ 3) : ∀ (f : Nat) (p : List Nat) (S : Int64) (m n : Nat) (par : Int32) (ord : Nat) (s : rS), wfp ns A rl p S → 121 ≤ p.length - hol p + f → rU s A ns rl → s.1 14 = nI (m + 1) → s.1 15 = nI n → rSk s m (p, S) par ord → m + crd rl S ≤ 45 → n + ph A rl p S ≤ 5000 → ltP d h q f0 S0 m n s (lay A rl ns f p S n par ord) := by
  intro f
  induction f with
  | zero =>
    intro p S m n par ord s hw hf
    have := wfp_len hg hw
    omega
  | succ f ih =>
    intro p S m n par ord s hw hf hu h14 h15 hx hb1 hb2 v
    obtain ⟨pc1, pc2⟩ := ph_pos hw
    obtain ⟨pl1, pl2⟩ := wfp_len hg hw
    obtain ⟨r0, hr0, hm0, hmt0⟩ := wfp_mem hw
    obtain ⟨w1, w2, w3, w4, w5, w6⟩ := hw
    have hw : wfp ns A rl p S := ⟨w1, w2, w3, w4, w5, w6⟩
    obtain ⟨l8, l9, g0⟩ := m_X11_lt_pre (d := d) (h := h) (q := q) (f0 := f0) (S0 := S0) (v := v) h14 h15 hx (by omega) (by omega) (by omega)
    have hfB : frm s (ndS s p m n par ord) FI FR FW := frm_mono ndS_frm (by decide) (by decide) (by decide)
    have huB := rU_frm hfB hu
    have hpB : rPat (ndS s p m n par ord) p := ⟨by simpa [ndS, uI, uR] using lf_row p (s.2.1 52), by omega, fun i hi => by have := w2 i hi; omega⟩
    have hbB : blw m s (ndS s p m n par ord) := fun i hi => ⟨rfl, rfl, rfl, rfl, rfl⟩
    have hnB : ndb n s (ndS s p m n par ord) := fun i hi => by
      have e : ¬ i = n := by omega
      simp [ndS, uI, uR, upd, e]
    have h14B : (ndS s p m n par ord).1 14 = nI m := by simp [ndS, uI, uR]
    have h15B : (ndS s p m n par ord).1 15 = nI (n + 1) := by simp [ndS, uI, uR]
    have h18B : (ndS s p m n par ord).2.1 18 n = nI 0 := by simp [ndS, uI, uR, upd]
    have h19B : (ndS s p m n par ord).2.1 19 n = par := by simp [ndS, uI, uR, upd]
    have h20B : (ndS s p m n par ord).2.1 20 n = nI ord := by simp [ndS, uI, uR, upd]
    generalize ndS s p m n par ord = sB at *
    have gl := fun Q => m_X11_isLeaf (d := d) (Q := Q) (h := h) (q := q) huB.1 huB.2.1 (rgo_rgd hg) hpB w4 hr0 hm0
    simp only [lay]
    by_cases c : isl A rl p S = true
    · rw [if_pos c]
      have gf := fun (s : rS) Q => m_X11_firstOf (d := d + 4) (Q := Q) (h := h) (q := q) (s := s) (by have := hg.1; omega : r0 < 64) hm0
      refine ⟨uR (uR sB 16 (upd (sB.2.1 16) n (nI 0))) 17 (upd (sB.2.1 17) n (nI (fsr S))), frm_trans (s2 := sB) hfB ⟨fun _ _ => rfl, fun t ht => ?_, fun _ _ => rfl⟩, hbB, ndb_trans hnB (fun i hi => ?_), h14B, h15B, fun i hi => ?_, (some (.int (nI p.length)), some (.long S), none, some (.int (nI n)), l8, l9), fun Q => ?_⟩
      · have : t ≠ 16 ∧ t ≠ 17 := ⟨fun e => ht (by rw [e]; decide), fun e => ht (by rw [e]; decide)⟩
        simp [uR, this]
      · have e : ¬ i = n := by omega
        simp [uR, upd, e]
      · simp only [List.length_cons, List.length_nil] at hi
        have e : i = 0 := by omega
        subst e
        refine ⟨?_, ?_, ?_, ?_, ?_⟩
        · simp [nat, uR, upd]
        · simp [nat, uR, upd]
        · simpa [nat, uR, upd] using h18B
        · simpa [nat, uR, upd] using h19B
        · simpa [nat, uR, upd] using h20B
      · rw [g0]
        simp (disch := first | exact ae_isR_ref _ | exact ae_isR_null | exact ae_isR_rf _ | exact ae_cat_ref _ | exact ae_cat_int _ | exact ae_cat_null | exact ae_cat_rf _ | exact ae_nz0 | exact ae_nz1 | exact ae_fz0 | exact ae_fz1 | exact cI_na (by omega) | exact cI_ix (by omega) | exact cI_nn (by omega) | exact cI_nz (by omega) | exact cI_cp (by omega) | assumption | omega) only [s_X11_layTree_179, s_X11_layTree_180, s_X11_layTree_182, s_X11_layTree_184 rl_0, s_X11_layTree_187, s_X11_layTree_190, s_X11_layTree_191, s_X11_layTree_194, s_X11_layTree_196, s_X11_layTree_197, s_X11_layTree_198, s_X11_layTree_199, s_X11_layTree_202, s_X11_layTree_204, s_X11_layTree_205, s_X11_layTree_207 rl_0, s_X11_layTree_210, s_X11_layTree_211, s_X11_layTree_285, rg_0, rg_1, rg_2, rg_3, rg_4, rg_5, rg_6, rg_7, rg_8, rg_9, rg_10, rg_11, rg_12, rg_13, rg_14, rg_15, rg_16, rg_17, rg_18, rg_19, rg_20, rg_21, rg_22, rg_23, rg_24, rg_25, rg_26, rg_27, rg_28, rg_29, rg_30, rg_31, rg_32, rg_33, rg_34, rg_35, rg_36, rg_37, rg_38, rg_39, rg_40, rg_41, rg_42, rg_43, rg_44, rg_45, rg_46, rg_47, rg_48, rg_49, rg_50, rg_51, rg_52, rp_0, rp_4, rp_5, rp_14, rp_15, rp_26, rp_29, rp_30, rp_31, rp_32, rp_33, rp_35, rp_36, rp_38, rp_39, rp_41, rp_42, rp_44, rp_45, rp_47, rp_51, rz_1, rs_1, rz_2, rs_2, rz_3, rs_3, rz_6, rzW_6, rsW_6, rz_7, rs_7, rz_8, rs_8, rz_9, rzW_9, rsW_9, rz_10, rs_10, rz_11, rs_11, rz_12, rs_12, rz_13, rs_13, rz_16, rs_16, rz_17, rs_17, rz_18, rs_18, rz_19, rs_19, rz_20, rs_20, rz_21, rzW_21, rsW_21, rz_22, rs_22, rz_23, rs_23, rz_24, rs_24, rz_25, rs_25, rz_27, rzW_27, rsW_27, rz_28, rs_28, rz_34, rs_34, rz_37, rs_37, rz_40, rs_40, rz_43, rs_43, rz_46, rs_46, rz_48, rs_48, rz_49, rs_49, rz_50, rs_50, rz_52, rs_52, uI_1, uI_2, uR_1, uR_21, uR_22, uW_1, uW_21, uW_22, uW_3, uJ_1, uJ_21, uJ_22, uJ_3, rh_2, va_rf, Bool.false_eq_true, ae_Ki, ae_Kb, ae_Kj, ae_Ka, ae_Si, ae_Sb, ae_Sj, ae_Sn, List.getElem?_cons_succ, List.getElem?_cons_zero, ↓reduceIte, if_true, if_false, nI_ofNat, true_or, or_true, false_or, or_false, true_and, and_true, false_and, and_false, or_self, and_self, not_true_eq_false, not_false_eq_true, eq_self, List.length_cons, List.length_nil, Nat.reduceAdd, Nat.reduceLT, Nat.reduceSub, List.set_cons_succ, List.set_cons_zero, Option.toList, List.nil_append, List.cons_append, cI_ltT, cI_ltF, cI_leT, cI_leF, cI_eqT, cI_eqF, cI_cl, cN_leT, cN_leF, cN_ltT, cN_ltF, cN_eqT, cN_eqF, cI_add, cI_sub, cI_m1a, cI_m1b, cI_m1c, cI_m1d, cI_m1e, cI_m1f, gl, c, gf, lcs]
    · rw [if_neg c]
      have gb := fun Q => m_X11_branchOf (d := d + 1) (Q := Q) (h := h) (q := q) huB.1 huB.2.1 (rgo_rgd hg) hpB w4 hr0 hm0
      cases e : bro A rl p S with
      | none =>
        dsimp only
        rw [e] at gb
        refine ⟨sB, hfB, hbB, hnB, fun Q => ?_⟩
        rw [g0]
        simp (disch := first | exact ae_isR_ref _ | exact ae_isR_null | exact ae_isR_rf _ | exact ae_cat_ref _ | exact ae_cat_int _ | exact ae_cat_null | exact ae_cat_rf _ | exact ae_nz0 | exact ae_nz1 | exact ae_fz0 | exact ae_fz1 | exact cI_na (by omega) | exact cI_ix (by omega) | exact cI_nn (by omega) | exact cI_nz (by omega) | exact cI_cp (by omega) | assumption | omega) only [s_X11_layTree_179, s_X11_layTree_180, s_X11_layTree_182, s_X11_layTree_184 rl_0, s_X11_layTree_187, s_X11_layTree_214, s_X11_layTree_215, s_X11_layTree_216, s_X11_layTree_219, s_X11_layTree_221, s_X11_layTree_223 rl_0, s_X11_layTree_226, s_X11_layTree_228, s_X11_layTree_230, s_X11_layTree_233, s_X11_layTree_234, s_X11_layTree_237, s_X11_layTree_238, s_X11_layTree_239, s_X11_layTree_242, s_X11_layTree_244 rl_0, s_X11_layTree_247, s_X11_layTree_249, s_X11_layTree_251, s_X11_layTree_254, s_X11_layTree_255, rg_0, rg_1, rg_2, rg_3, rg_4, rg_5, rg_6, rg_7, rg_8, rg_9, rg_10, rg_11, rg_12, rg_13, rg_14, rg_15, rg_16, rg_17, rg_18, rg_19, rg_20, rg_21, rg_22, rg_23, rg_24, rg_25, rg_26, rg_27, rg_28, rg_29, rg_30, rg_31, rg_32, rg_33, rg_34, rg_35, rg_36, rg_37, rg_38, rg_39, rg_40, rg_41, rg_42, rg_43, rg_44, rg_45, rg_46, rg_47, rg_48, rg_49, rg_50, rg_51, rg_52, rp_0, rp_4, rp_5, rp_14, rp_15, rp_26, rp_29, rp_30, rp_31, rp_32, rp_33, rp_35, rp_36, rp_38, rp_39, rp_41, rp_42, rp_44, rp_45, rp_47, rp_51, rz_1, rs_1, rz_2, rs_2, rz_3, rs_3, rz_6, rzW_6, rsW_6, rz_7, rs_7, rz_8, rs_8, rz_9, rzW_9, rsW_9, rz_10, rs_10, rz_11, rs_11, rz_12, rs_12, rz_13, rs_13, rz_16, rs_16, rz_17, rs_17, rz_18, rs_18, rz_19, rs_19, rz_20, rs_20, rz_21, rzW_21, rsW_21, rz_22, rs_22, rz_23, rs_23, rz_24, rs_24, rz_25, rs_25, rz_27, rzW_27, rsW_27, rz_28, rs_28, rz_34, rs_34, rz_37, rs_37, rz_40, rs_40, rz_43, rs_43, rz_46, rs_46, rz_48, rs_48, rz_49, rs_49, rz_50, rs_50, rz_52, rs_52, uI_1, uI_2, uR_1, uR_21, uR_22, uW_1, uW_21, uW_22, uW_3, uJ_1, uJ_21, uJ_22, uJ_3, rh_2, va_rf, Bool.false_eq_true, ae_Ki, ae_Kb, ae_Kj, ae_Ka, ae_Si, ae_Sb, ae_Sj, ae_Sn, List.getElem?_cons_succ, List.getElem?_cons_zero, ↓reduceIte, if_true, if_false, nI_ofNat, true_or, or_true, false_or, or_false, true_and, and_true, false_and, and_false, or_self, and_self, not_true_eq_false, not_false_eq_true, eq_self, List.length_cons, List.length_nil, Nat.reduceAdd, Nat.reduceLT, Nat.reduceSub, List.set_cons_succ, List.set_cons_zero, Option.toList, List.nil_append, List.cons_append, cI_ltT, cI_ltF, cI_leT, cI_leF, cI_eqT, cI_eqF, cI_cl, cN_leT, cN_leF, cN_ltT, cN_ltF, cN_eqT, cN_eqF, cI_add, cI_sub, cI_m1a, cI_m1b, cI_m1c, cI_m1d, cI_m1e, cI_m1f, gl, c, gb, locv, cI_m1g, cI_m1h]
      | some k =>
        dsimp only
        rw [e] at gb
        obtain ⟨b1, b2, b3, b4, b5⟩ := bro_at (ns := ns) e
        have hhp := hol_le p
        obtain ⟨s2, p1, p2, p3⟩ := m_X11_placeOf (d := d + 4) (h := h) (q := q) (s := sB) huB.1 w1 (by omega) w2 hpB.1 (by omega) b2
        have hf2 := frm_trans hfB (frm_mono (I2 := FI) (R2 := FR) (W2 := FW) p2 (by decide) (by decide) (by decide))
        have hb2' : blw m s s2 := blw_trans hbB (fun i _ => ⟨by rw [p3], by rw [p2.2.1 10 (by decide)], by rw [p3], by rw [p2.2.1 12 (by decide)], by rw [p2.2.1 13 (by decide)]⟩)
        have hn2 : ndb n s s2 := ndb_trans hnB (fun i _ => ⟨by rw [p2.2.1 16 (by decide)], by rw [p2.2.1 17 (by decide)], by rw [p2.2.1 18 (by decide)], by rw [p2.2.1 19 (by decide)], by rw [p2.2.1 20 (by decide)]⟩)
        by_cases c2 : 8 < (pds A p (jof p k)).length
        · rw [if_pos c2] at p1 ⊢
          refine ⟨s2, hf2, hb2', hn2, fun Q => ?_⟩
          rw [g0]
          simp (disch := first | exact ae_isR_ref _ | exact ae_isR_null | exact ae_isR_rf _ | exact ae_cat_ref _ | exact ae_cat_int _ | exact ae_cat_null | exact ae_cat_rf _ | exact ae_nz0 | exact ae_nz1 | exact ae_fz0 | exact ae_fz1 | exact cI_na (by omega) | exact cI_ix (by omega) | exact cI_nn (by omega) | exact cI_nz (by omega) | exact cI_cp (by omega) | assumption | omega) only [s_X11_layTree_179, s_X11_layTree_180, s_X11_layTree_182, s_X11_layTree_184 rl_0, s_X11_layTree_187, s_X11_layTree_214, s_X11_layTree_215, s_X11_layTree_216, s_X11_layTree_219, s_X11_layTree_221, s_X11_layTree_223 rl_0, s_X11_layTree_226, s_X11_layTree_228, s_X11_layTree_230, s_X11_layTree_233, s_X11_layTree_234, s_X11_layTree_237, s_X11_layTree_238, s_X11_layTree_239, s_X11_layTree_242, s_X11_layTree_244 rl_0, s_X11_layTree_247, s_X11_layTree_249, s_X11_layTree_251, s_X11_layTree_254, s_X11_layTree_255, rg_0, rg_1, rg_2, rg_3, rg_4, rg_5, rg_6, rg_7, rg_8, rg_9, rg_10, rg_11, rg_12, rg_13, rg_14, rg_15, rg_16, rg_17, rg_18, rg_19, rg_20, rg_21, rg_22, rg_23, rg_24, rg_25, rg_26, rg_27, rg_28, rg_29, rg_30, rg_31, rg_32, rg_33, rg_34, rg_35, rg_36, rg_37, rg_38, rg_39, rg_40, rg_41, rg_42, rg_43, rg_44, rg_45, rg_46, rg_47, rg_48, rg_49, rg_50, rg_51, rg_52, rp_0, rp_4, rp_5, rp_14, rp_15, rp_26, rp_29, rp_30, rp_31, rp_32, rp_33, rp_35, rp_36, rp_38, rp_39, rp_41, rp_42, rp_44, rp_45, rp_47, rp_51, rz_1, rs_1, rz_2, rs_2, rz_3, rs_3, rz_6, rzW_6, rsW_6, rz_7, rs_7, rz_8, rs_8, rz_9, rzW_9, rsW_9, rz_10, rs_10, rz_11, rs_11, rz_12, rs_12, rz_13, rs_13, rz_16, rs_16, rz_17, rs_17, rz_18, rs_18, rz_19, rs_19, rz_20, rs_20, rz_21, rzW_21, rsW_21, rz_22, rs_22, rz_23, rs_23, rz_24, rs_24, rz_25, rs_25, rz_27, rzW_27, rsW_27, rz_28, rs_28, rz_34, rs_34, rz_37, rs_37, rz_40, rs_40, rz_43, rs_43, rz_46, rs_46, rz_48, rs_48, rz_49, rs_49, rz_50, rs_50, rz_52, rs_52, uI_1, uI_2, uR_1, uR_21, uR_22, uW_1, uW_21, uW_22, uW_3, uJ_1, uJ_21, uJ_22, uJ_3, rh_2, va_rf, Bool.false_eq_true, ae_Ki, ae_Kb, ae_Kj, ae_Ka, ae_Si, ae_Sb, ae_Sj, ae_Sn, List.getElem?_cons_succ, List.getElem?_cons_zero, ↓reduceIte, if_true, if_false, nI_ofNat, true_or, or_true, false_or, or_false, true_and, and_true, false_and, and_false, or_self, and_self, not_true_eq_false, not_false_eq_true, eq_self, List.length_cons, List.length_nil, Nat.reduceAdd, Nat.reduceLT, Nat.reduceSub, List.set_cons_succ, List.set_cons_zero, Option.toList, List.nil_append, List.cons_append, cI_ltT, cI_ltF, cI_leT, cI_leF, cI_eqT, cI_eqF, cI_cl, cN_leT, cN_leF, cN_ltT, cN_ltF, cN_eqT, cN_eqF, cI_add, cI_sub, cI_m1a, cI_m1b, cI_m1c, cI_m1d, cI_m1e, cI_m1f, gl, c, gb, locv, p1]
        · rw [if_neg c2] at p1 ⊢
          have hvp := pds_vp w1 b3
          have hdg := vpt_dig hA3 _ _ _ hvp
          have hne : pds A p (jof p k) ≠ [] := fun z => by
            rw [z] at hvp
            have hvp : 0 = jof p k := hvp
            rw [← hvp] at b4
            exact w3 b4
          have hp0 := plv_pos hdg hne
          have hp8 := plv_lt _ hdg
          have hp9 : (10 : Nat) ^ (pds A p (jof p k)).length ≤ 10 ^ 8 := Nat.pow_le_pow_right (by decide) (by omega)
          generalize plv (pds A p (jof p k)) = pv at p1 hp0 hp8 ⊢
          have hpv : pv < 100000000 := by
            have : (10 : Nat) ^ 8 = 100000000 := by decide
            omega
          obtain ⟨c3, c4⟩ := chs_ok (A := A) (rl := rl) (ns := ns) (p := p) (k := k) (S := S)
          obtain ⟨q1, q2⟩ := ph_kids hns hg hw e _ c3 (fun c hc => (c4 c hc).1)
          have hkw : ∀ c, c ∈ chs A rl ns p k S → wfp ns A rl (kid A rl p k S c).1 (kid A rl p k S c).2 := fun c hc => kid_wfp h99 hns hg hw e (c4 c hc).1 (c4 c hc).2
          have hcl : (chs A rl ns p k S).length ≤ ((chs A rl ns p k S).map (fun c => crd rl (kid A rl p k S c).2)).sum := by
            generalize chs A rl ns p k S = cs at hkw
            induction cs with
            | nil => simp
            | cons x cs ih2 =>
              have h1 := ih2 (fun c hc => hkw c (by simp [hc]))
              have h2 := (ph_pos (hkw x (by simp))).2
              simp only [List.map_cons, List.sum_cons, List.length_cons]
              omega
          have hfx : frm s2 (uR (uR s2 16 (upd (s2.2.1 16) n (nI 1))) 17 (upd (s2.2.1 17) n (nI pv))) FI FR FW := ⟨fun _ _ => rfl, fun t ht => by
              have : t ≠ 16 ∧ t ≠ 17 := ⟨fun e => ht (by rw [e]; decide), fun e => ht (by rw [e]; decide)⟩
              simp [uR, this], fun _ _ => rfl⟩
          have hu3 := rU_frm (frm_trans hf2 hfx) hu
          obtain ⟨s3, t1, t2, t3, t4, t5, t6⟩ := m_X11_layBranch (d := d) (h := h) (q := q) (s := uR (uR s2 16 (upd (s2.2.1 16) n (nI 1))) 17 (upd (s2.2.1 17) n (nI pv))) (n := n) (m := m) hu3 h0 (rgo_rgd hg) (p := p) ⟨by
              have := hpB.1
              rw [← p2.2.1 52 (by decide)] at this
              exact this, hpB.2⟩ pl2 w4 b2 b1 (by
              show s2.1 14 = _
              rw [p2.1 14 (by decide)]; exact h14B) (by omega) (by omega)
          have hf3 : frm s s3 FI FR FW := frm_trans hf2 (frm_trans hfx (frm_mono t2 (by decide) (by decide) (by decide)))
          have hb3 : blw m s s3 := blw_trans hb2' (blw_trans (s2 := uR (uR s2 16 (upd (s2.2.1 16) n (nI 1))) 17 (upd (s2.2.1 17) n (nI pv))) (fun i _ => ⟨rfl, rfl, rfl, rfl, rfl⟩) t4)
          have hn3 : ndb n s s3 := ndb_trans hn2 (fun i hi => by
            have e : ¬ i = n := by omega
            rw [t2.2.1 16 (by decide), t2.2.1 17 (by decide), t6, t2.2.1 19 (by decide), t2.2.1 20 (by decide)]
            simp [uR, upd, e])
          have h15' : s3.1 15 = nI (n + 1) := by
            rw [t2.1 15 (by decide)]
            show s2.1 15 = _
            rw [p2.1 15 (by decide)]; exact h15B
          have hnode : rNd s3 n (1, pv, (chs A rl ns p k S).length, par, ord) := by
            refine ⟨?_, ?_, ?_, ?_, ?_⟩
            · rw [t2.2.1 16 (by decide)]; simp [uR, upd]
            · rw [t2.2.1 17 (by decide)]; simp [uR, upd]
            · rw [t6]; simp [upd]
            · rw [t2.2.1 19 (by decide)]
              show s2.2.1 19 n = par
              rw [p2.2.1 19 (by decide)]; exact h19B
            · rw [t2.2.1 20 (by decide)]
              show s2.2.1 20 n = nI ord
              rw [p2.2.1 20 (by decide)]; exact h20B
          have hgo : ∀ Q, ae_wp (d + 5) mX11_layTree 49 (lcs q f0 S0 v) [] (rh h q s) Q = ae_wp (d + 5) mX11_layTree 49 (lcs q f0 S0 (some (.int (nI p.length)), some (.long S), none, some (.int (nI n)), some (.int (nI k)), some (.int (nI pv)))) [] (rh h q s3) Q := fun Q => by
            rw [g0]
            simp (disch := first | exact ae_isR_ref _ | exact ae_isR_null | exact ae_isR_rf _ | exact ae_cat_ref _ | exact ae_cat_int _ | exact ae_cat_null | exact ae_cat_rf _ | exact ae_nz0 | exact ae_nz1 | exact ae_fz0 | exact ae_fz1 | exact cI_na (by omega) | exact cI_ix (by omega) | exact cI_nn (by omega) | exact cI_nz (by omega) | exact cI_cp (by omega) | assumption | omega) only [s_X11_layTree_179, s_X11_layTree_180, s_X11_layTree_182, s_X11_layTree_184 rl_0, s_X11_layTree_187, s_X11_layTree_214, s_X11_layTree_215, s_X11_layTree_216, s_X11_layTree_219, s_X11_layTree_221, s_X11_layTree_223 rl_0, s_X11_layTree_226, s_X11_layTree_228, s_X11_layTree_230, s_X11_layTree_233, s_X11_layTree_234, s_X11_layTree_237, s_X11_layTree_238, s_X11_layTree_239, s_X11_layTree_242, s_X11_layTree_244 rl_0, s_X11_layTree_247, s_X11_layTree_249, s_X11_layTree_251, s_X11_layTree_254, s_X11_layTree_255, s_X11_layTree_256, s_X11_layTree_257, s_X11_layTree_260, s_X11_layTree_262, s_X11_layTree_263, s_X11_layTree_264, s_X11_layTree_265, s_X11_layTree_268, s_X11_layTree_270, s_X11_layTree_272, s_X11_layTree_273, s_X11_layTree_274, s_X11_layTree_276, s_X11_layTree_278, s_X11_layTree_280, s_X11_layTree_282 rl_0, s_X11_layTree_285, rg_0, rg_1, rg_2, rg_3, rg_4, rg_5, rg_6, rg_7, rg_8, rg_9, rg_10, rg_11, rg_12, rg_13, rg_14, rg_15, rg_16, rg_17, rg_18, rg_19, rg_20, rg_21, rg_22, rg_23, rg_24, rg_25, rg_26, rg_27, rg_28, rg_29, rg_30, rg_31, rg_32, rg_33, rg_34, rg_35, rg_36, rg_37, rg_38, rg_39, rg_40, rg_41, rg_42, rg_43, rg_44, rg_45, rg_46, rg_47, rg_48, rg_49, rg_50, rg_51, rg_52, rp_0, rp_4, rp_5, rp_14, rp_15, rp_26, rp_29, rp_30, rp_31, rp_32, rp_33, rp_35, rp_36, rp_38, rp_39, rp_41, rp_42, rp_44, rp_45, rp_47, rp_51, rz_1, rs_1, rz_2, rs_2, rz_3, rs_3, rz_6, rzW_6, rsW_6, rz_7, rs_7, rz_8, rs_8, rz_9, rzW_9, rsW_9, rz_10, rs_10, rz_11, rs_11, rz_12, rs_12, rz_13, rs_13, rz_16, rs_16, rz_17, rs_17, rz_18, rs_18, rz_19, rs_19, rz_20, rs_20, rz_21, rzW_21, rsW_21, rz_22, rs_22, rz_23, rs_23, rz_24, rs_24, rz_25, rs_25, rz_27, rzW_27, rsW_27, rz_28, rs_28, rz_34, rs_34, rz_37, rs_37, rz_40, rs_40, rz_43, rs_43, rz_46, rs_46, rz_48, rs_48, rz_49, rs_49, rz_50, rs_50, rz_52, rs_52, uI_1, uI_2, uR_1, uR_21, uR_22, uW_1, uW_21, uW_22, uW_3, uJ_1, uJ_21, uJ_22, uJ_3, rh_2, va_rf, Bool.false_eq_true, ae_Ki, ae_Kb, ae_Kj, ae_Ka, ae_Si, ae_Sb, ae_Sj, ae_Sn, List.getElem?_cons_succ, List.getElem?_cons_zero, ↓reduceIte, if_true, if_false, nI_ofNat, true_or, or_true, false_or, or_false, true_and, and_true, false_and, and_false, or_self, and_self, not_true_eq_false, not_false_eq_true, eq_self, List.length_cons, List.length_nil, Nat.reduceAdd, Nat.reduceLT, Nat.reduceSub, List.set_cons_succ, List.set_cons_zero, Option.toList, List.nil_append, List.cons_append, cI_ltT, cI_ltF, cI_leT, cI_leF, cI_eqT, cI_eqF, cI_cl, cN_leT, cN_leF, cN_ltT, cN_ltF, cN_eqT, cN_eqF, cI_add, cI_sub, cI_m1a, cI_m1b, cI_m1c, cI_m1d, cI_m1e, cI_m1f, gl, c, gb, locv, p1, t1, lcs]
          obtain ⟨s4, y1, y2, y3, y4⟩ := m_X11_lt_kids (d := d) (h := h) (q := q) (f0 := f0) (S0 := S0) (A := A) (ns := ns) (rl := rl) (g := lay A rl ns f) (u := kid A rl p k S) (par := nI n) (chs A rl ns p k S) m (n + 1) 0 s3 (fun c hc m n ord s hu1 h141 h151 hx1 hb11 hb21 => ⟨ih _ _ m n (nI _) ord s (hkw c hc) (by
              have e1 := rfa_len (A := A) (c := c) b3
              have e2 := rfa_hol (A := A) b3 b4 (show c ≠ 99 by have := (c4 c hc).1; omega)
              simp only [kid]
              omega) hu1 h141 h151 hx1 hb11 hb21, fun L hL => (lay_len h99 hns hg _ _ _ _ _ _ _ (hkw c hc) hL).1⟩) (fun c hc => (ph_pos (hkw c hc)).2) (rU_frm hf3 hu) t3 h15' (fun i hi => by
              have := t5 i hi
              rw [Nat.zero_add]
              exact this) (by omega) (by omega) (some (.int (nI p.length)), some (.long S), none, some (.int (nI n)), some (.int (nI k)), some (.int (nI pv)))
          cases e2 : layL (lay A rl ns f) (kid A rl p k S) (chs A rl ns p k S) (n + 1) (nI n) 0 with
          | none =>
            rw [e2] at y4
            exact ⟨s4, frm_trans hf3 y1, blw_trans hb3 y2, ndb_trans hn3 (ndb_mono y3 (by omega)), fun Q => (hgo Q).trans (y4 Q)⟩
          | some M =>
            rw [e2] at y4
            obtain ⟨z1, z2, z3, v2, z4⟩ := y4
            refine ⟨s4, frm_trans hf3 y1, blw_trans hb3 y2, ndb_trans hn3 (ndb_mono y3 (by omega)), z1, by rw [z2, List.length_cons]; congr 1; omega, fun i hi => ?_, v2, fun Q => (hgo Q).trans (z4 Q)⟩
            cases i with
            | zero => exact rNd_ndb y3 (by omega) hnode
            | succ i =>
              have := z3 i (by simpa using hi)
              rw [show n + 1 + i = n + (i + 1) by omega] at this
              exact this
end REFY
