/-! NarrowSolverModel: what is kept, as a whole; problem -/
abbrev sV : Type := List mP × List (List Nat) × Int32 × Int32 × Int32 × Int32
def rSv (s : rS) (v : sV) : Prop := rWait s v.1 ∧ rSol s v.2.1 ∧ s.1 30 = v.2.2.1 ∧ s.1 31 = v.2.2.2.1 ∧ s.1 32 = v.2.2.2.2.1 ∧ s.1 33 = v.2.2.2.2.2
def kpm (v : sV) (L T : List Nat) (mn nx : Nat) : sV := if 300 < L.length + T.length ∨ 81 < nx ∨ (mn = 0 ∧ v.2.1.length = 30) ∨ (0 < mn ∧ v.1.length = 40) then (v.1, v.2.1, v.2.2.1, v.2.2.2.1, v.2.2.2.2.1, v.2.2.2.2.2 + nI 1) else if mn = 0 then (v.1, v.2.1 ++ [T], v.2.2) else (v.1 ++ [(L, T, mn, nx)], v.2)
theorem wat_app1 {w : List mP} {p : mP} {j : Nat} (h : j < w.length) : wat (w ++ [p]) j = wat w j := by
  simp [wat, List.getD_eq_getElem?_getD, List.getElem?_append_left h]
theorem wat_app2 {w : List mP} {p : mP} : wat (w ++ [p]) w.length = p := by
  simp [wat, List.getD_eq_getElem?_getD]
theorem rWait_frm {s s2 : rS} {w : List mP} {I R W : List Nat} (h : frm s s2 I R W) (h1 : 26 ∉ I) (h2 : 22 ∉ R ∧ 23 ∉ R ∧ 24 ∉ R ∧ 25 ∉ R) (h3 : 21 ∉ W) (hw : rWait s w) : rWait s2 w := by
  obtain ⟨f1, f2, f3⟩ := h
  refine ⟨by rw [f1 26 h1]; exact hw.1, hw.2.1, fun j hj => ?_⟩
  have := hw.2.2 j hj
  unfold rowP at *
  rw [f2 22 h2.1, f2 23 h2.2.1, f2 24 h2.2.2.1, f2 25 h2.2.2.2, f3 21 h3]
  exact this
theorem rSol_frm {s s2 : rS} {z : List (List Nat)} {I R W : List Nat} (h : frm s s2 I R W) (h1 : 29 ∉ I) (h3 : 27 ∉ W) (hz : rSol s z) : rSol s2 z := by
  obtain ⟨f1, f2, f3⟩ := h
  refine ⟨by rw [f1 29 h1]; exact hz.1, hz.2.1, fun j hj => ?_⟩
  rw [f3 27 h3]
  exact hz.2.2 j hj
theorem rSv_frm {s s2 : rS} {v : sV} {I R W : List Nat} (h : frm s s2 I R W) (h1 : 26 ∉ I ∧ 29 ∉ I ∧ 30 ∉ I ∧ 31 ∉ I ∧ 32 ∉ I ∧ 33 ∉ I) (h2 : 22 ∉ R ∧ 23 ∉ R ∧ 24 ∉ R ∧ 25 ∉ R) (h3 : 21 ∉ W ∧ 27 ∉ W) (hv : rSv s v) : rSv s2 v := by
  obtain ⟨v1, v2, v3, v4, v5, v6⟩ := hv
  exact ⟨rWait_frm h h1.1 h2 h3.1 v1, rSol_frm h h1.2.1 h3.2 v2, by rw [h.1 30 h1.2.2.1]; exact v3, by rw [h.1 31 h1.2.2.2.1]; exact v4, by rw [h.1 32 h1.2.2.2.2.1]; exact v5, by rw [h.1 33 h1.2.2.2.2.2]; exact v6⟩
theorem nb_frm (s : rS) (L T : List Nat) : frm s (nb s L T) [41, 44, 45] [40, 43] [] := by
  refine ⟨fun k hk => ?_, fun k hk => ?_, fun _ _ => rfl⟩
  · simp only [List.mem_cons, List.not_mem_nil, or_false, not_or] at hk
    exact nb_I ⟨hk.1, hk.2.1, hk.2.2⟩
  · simp only [List.mem_cons, List.not_mem_nil, or_false, not_or] at hk
    exact nb_R ⟨hk.1, hk.2⟩
section REFK
variable {d : Nat} {Q : Option Value → ah_H → Prop} {h : ah_H} {q : Nat} {s : rS} {A : Nat → Nat} {ns : Nat} {rl : mR} {F : Nat → Bool} {tp L T : List Nat} {v : sV}
theorem m_X11_keepM {mn nx : Nat} (hv : rSv s v) (hm : s.1 42 = nI mn) (hmn : mn < 2147483648) (hnx : nx < 2147483648) : ∃ s2, (∀ Q, ae_wm d mX11_keep [.ref q, .int (nI nx)] (rh h q (nb s L T)) Q = Q none (rh h q (nb s2 L T))) ∧ rSv s2 (kpm v L T mn nx) ∧ frm s s2 [26, 29, 33] [22, 23, 24, 25, 28] [21, 27] := by
  obtain ⟨v1, v2, v3, v4, v5, v6⟩ := hv
  unfold kpm
  by_cases c : 300 < L.length + T.length ∨ 81 < nx ∨ (mn = 0 ∧ v.2.1.length = 30) ∨ (0 < mn ∧ v.1.length = 40)
  · rw [if_pos c]
    have hf : frm s (uI s 33 (s.1 33 + nI 1)) [33] [] [] := ⟨fun t ht => by
      simp only [List.mem_cons, List.not_mem_nil, or_false] at ht
      simp [uI, ht], fun _ _ => rfl, fun _ _ => rfl⟩
    refine ⟨uI s 33 (s.1 33 + nI 1), fun Q => m_X11_keep_lost v1.1 v1.2.1 v2.1 v2.2.1 hm hmn hnx c, ⟨rWait_frm hf (by decide) (by decide) (by decide) v1, rSol_frm hf (by decide) (by decide) v2, v3, v4, v5, ?_⟩, frm_mono hf (by simp) (by simp) (by simp)⟩
    show (uI s 33 (s.1 33 + nI 1)).1 33 = _
    rw [uI_1, if_pos rfl, v6]
  · rw [if_neg c]
    by_cases c2 : mn = 0
    · rw [if_pos c2]
      subst c2
      have hz2 := v2.2.1
      have hf : frm s (kpS s T v.2.1.length) [29] [28] [27] := by
        refine ⟨fun t ht => ?_, fun t ht => ?_, fun t ht => ?_⟩
        · simp only [List.mem_cons, List.not_mem_nil, or_false] at ht
          simp [kpS, uI, uR, uW, ht]
        · simp only [List.mem_cons, List.not_mem_nil, or_false] at ht
          simp [kpS, uI, uR, uW, ht]
        · simp only [List.mem_cons, List.not_mem_nil, or_false] at ht
          simp [kpS, uI, uR, uW, ht]
      refine ⟨kpS s T v.2.1.length, fun Q => m_X11_keep_s v2.1 (by omega) hm (by omega) (by omega), ⟨rWait_frm hf (by decide) (by decide) (by decide) v1, ⟨?_, ?_, fun i hi => ?_⟩, v3, v4, v5, v6⟩, frm_mono hf (by simp) (by simp) (by simp)⟩
      · simp [kpS, uI]
      · simp only [List.length_append, List.length_cons, List.length_nil]; omega
      · simp only [List.length_append, List.length_cons, List.length_nil] at hi
        by_cases e : i < v.2.1.length
        · have e2 : ¬ i = v.2.1.length := by omega
          have := v2.2.2 i e
          simpa [kpS, uI, uR, uW, e2, List.getD_eq_getElem?_getD, List.getElem?_append_left e] using this
        · have e2 : i = v.2.1.length := by omega
          subst e2
          have := lf_row T (s.2.2.1 27 v.2.1.length)
          simpa [kpS, uI, uR, uW, List.getD_eq_getElem?_getD] using this
    · rw [if_neg c2]
      have hw2 := v1.2.1
      have hf : frm s (kpW s L T v.1.length (nI nx)) [26] [22, 23, 24, 25] [21] := by
        refine ⟨fun t ht => ?_, fun t ht => ?_, fun t ht => ?_⟩
        · simp only [List.mem_cons, List.not_mem_nil, or_false] at ht
          simp [kpW, uI, uR, uW, ht]
        · simp only [List.mem_cons, List.not_mem_nil, or_false, not_or] at ht
          simp [kpW, uI, uR, uW, ht]
        · simp only [List.mem_cons, List.not_mem_nil, or_false] at ht
          simp [kpW, uI, uR, uW, ht]
      refine ⟨kpW s L T v.1.length (nI nx), fun Q => m_X11_keep_w v1.1 (by omega) hm (by omega) (by omega) (by omega), ⟨⟨?_, ?_, fun j hj => ?_⟩, rSol_frm hf (by decide) (by decide) v2, v3, v4, v5, v6⟩, frm_mono hf (by simp) (by simp) (by simp)⟩
      · simp [kpW, uI]
      · simp only [List.length_append, List.length_cons, List.length_nil]; omega
      · simp only [List.length_append, List.length_cons, List.length_nil] at hj
        by_cases e : j < v.1.length
        · have e2 : ¬ j = v.1.length := by omega
          rw [wat_app1 e]
          have := v1.2.2 j e
          unfold rowP at *
          simpa [kpW, uI, uR, uW, upd, e2] using this
        · have e2 : j = v.1.length := by omega
          subst e2
          rw [wat_app2]
          have := lf_row (L ++ T) (s.2.2.1 21 v.1.length)
          refine ⟨?_, ?_, ?_, ?_, ?_⟩
          · simpa [kpW, uI, uR, uW] using this
          · simp [kpW, uI, uR, uW, upd]
          · simp [kpW, uI, uR, uW, upd]
          · simp [kpW, uI, uR, uW, upd, hm]
          · simp [kpW, uI, uR, uW, upd]
end REFK
/-- how many terms the tape has -/
def prl (A : Nat → Nat) (ns : Nat) (tp : List Nat) : Nat → Nat → Nat → Int32 ⊕ Nat
  | 0, _, t => .inr t
  | k + 1, at_, t => if at_ < tp.length then (match rdt A ns tp at_ with
    | .inl v => .inl v
    | .inr j => prl A ns tp k j (t + 1)) else .inr t
def prb (A : Nat → Nat) (ns : Nat) (tp : List Nat) : Int32 ⊕ Nat := match prl A ns tp 121 0 0 with
  | .inl v => .inl v
  | .inr t => if t % 2 = 1 then .inl (-12) else .inr (t / 2)
def unk : List Nat := (List.range 10).map (fun u => 100 + u)
/-- what the solver begins with -/
def svb (tp : List Nat) (mn : Nat) : sV := if mn = 0 then ([], [unk], nI 0, nI 0, nI 0, nI 0) else ([(tp, unk, mn, 10)], [], nI 0, nI 0, nI 0, nI 0)
theorem sl_end (l : List Nat) (a : Nat) : sl l a l.length = l.drop a := List.take_of_length_le (by simp)
theorem prl_inl {A : Nat → Nat} {ns : Nat} {tp : List Nat} : ∀ (k at_ t : Nat) (v : Int32), prl A ns tp k at_ t = .inl v → v < nI 0 := by
  intro k
  induction k with
  | zero => intro at_ t v h; cases h
  | succ k ih =>
    intro at_ t v h
    simp only [prl] at h
    by_cases c : at_ < tp.length
    · rw [if_pos c] at h
      cases e : rdt A ns tp at_ with
      | inl v1 =>
        rw [e] at h
        cases h
        rcases rdo_inl _ _ _ _ e with z | z <;> rw [z] <;> decide +kernel
      | inr j => rw [e] at h; exact ih _ _ _ h
    · rw [if_neg c] at h; cases h
theorem prl_inr {A : Nat → Nat} {ns : Nat} {tp : List Nat} : ∀ (k at_ t t2 : Nat), tp.length < at_ + k → at_ ≤ tp.length → prl A ns tp k at_ t = .inr t2 → rn A (tp.drop at_) (t2 - t) = some 0 ∧ t ≤ t2 ∧ t2 ≤ t + (tp.length - at_) ∧ ∀ i, at_ ≤ i → i < tp.length → knw ns (tp.getD i 0) = true := by
  intro k
  induction k with
  | zero => intro at_ t t2 h1 h2; omega
  | succ k ih =>
    intro at_ t t2 h1 h2 h
    simp only [prl] at h
    by_cases c : at_ < tp.length
    · rw [if_pos c] at h
      cases e : rdt A ns tp at_ with
      | inl v1 => rw [e] at h; cases h
      | inr j =>
        rw [e] at h
        obtain ⟨a1, a2, a3, a4, a5⟩ := rdo_inr _ _ _ _ (by omega) e
        have a6 : at_ < j := by
          rcases Nat.lt_or_ge at_ j with z | z
          · exact z
          · have : j = at_ := by omega
            rw [this, sl_nil (Nat.le_refl _)] at a3
            simp [rn] at a3
        obtain ⟨g1, g2, g3, g4⟩ := ih j (t + 1) t2 (by omega) a2 h
        refine ⟨?_, by omega, by omega, fun i h3 h4 => ?_⟩
        · have e1 : tp.drop at_ = sl tp at_ j ++ tp.drop j := by
            have := sl_app (l := tp) a1 a2
            have e2 := sl_end tp at_
            have e3 := sl_end tp j
            rw [e2, e3] at this
            exact this
          rw [e1, show t2 - t = 1 + (t2 - (t + 1)) by omega]
          exact rn_two a3 g1
        · by_cases c2 : i < j
          · exact a5 i h3 c2
          · exact g4 i (by omega) h4
    · rw [if_neg c] at h
      cases h
      rw [List.drop_eq_nil_of_le (by omega), Nat.sub_self]
      exact ⟨rfl, Nat.le_refl _, by omega, fun i h3 h4 => by omega⟩
theorem unk_len : unk.length = 10 := rfl
section REFK2
variable {d : Nat} {Q : Option Value → ah_H → Prop} {h : ah_H} {q : Nat} {s : rS} {A : Nat → Nat} {ns : Nat} {rl : mR} {F : Nat → Bool} {tp L T : List Nat} {v : sV}
theorem m_X11_pr_loop (ht : rTape s tp) (hA : arl A ns (s.2.1 2)) (hn : s.1 0 = nI ns) {l3 l4 l5 : Option Value} : ∀ (k at_ t : Nat), tp.length < at_ + k → at_ ≤ tp.length → t ≤ 200 - k → k ≤ 200 → ∃ a2 t2, (prl A ns tp k at_ t = .inl a2 ∧ a2 < nI 0 ∨ (prl A ns tp k at_ t = .inr t2 ∧ a2 = nI tp.length ∧ t2 ≤ 200)) ∧ ae_wp (d + 3) mX11_problem 4 [some (.ref q), some (.int (nI at_)), some (.int (nI t)), l3, l4, l5] [] (rh h q s) Q = ae_wp (d + 3) mX11_problem 28 [some (.ref q), some (.int a2), some (.int (nI t2)), l3, l4, l5] [] (rh h q s) Q := by
  have t1 := ht.1
  have t3 := ht.2.2.1
  intro k
  induction k with
  | zero => intro at_ t h1 h2; omega
  | succ k ih =>
    intro at_ t h1 h2 h3 h4
    simp only [prl]
    by_cases c : at_ < tp.length
    · rw [if_pos c]
      have g := fun Q => m_X11_readTerm (d := d) (Q := Q) (h := h) (q := q) ht hA hn (i := at_) h2
      cases e : rdt A ns tp at_ with
      | inl v1 =>
        rw [e] at g
        have hv : v1 < nI 0 := by rcases rdo_inl _ _ _ _ e with z | z <;> rw [z] <;> decide +kernel
        refine ⟨v1, t + 1, Or.inl ⟨rfl, hv⟩, ?_⟩
        refine Eq.trans (b := ae_wp (d + 3) mX11_problem 4 [some (.ref q), some (.int v1), some (.int (nI (t + 1))), l3, l4, l5] [] (rh h q s) Q) ?_ ?_
        · refine Eq.trans ?_ s_X11_problem_25
          simp (disch := first | exact ae_isR_ref _ | exact ae_isR_null | exact ae_isR_rf _ | exact ae_cat_ref _ | exact ae_cat_int _ | exact ae_cat_null | exact ae_cat_rf _ | exact ae_nz0 | exact ae_nz1 | exact ae_fz0 | exact ae_fz1 | exact cI_na (by omega) | exact cI_ix (by omega) | exact cI_nn (by omega) | exact cI_nz (by omega) | exact cI_cp (by omega) | assumption | omega) only [s_X11_problem_4, s_X11_problem_5, s_X11_problem_8, s_X11_problem_9, s_X11_problem_10, s_X11_problem_13, s_X11_problem_16, s_X11_problem_17, s_X11_problem_18 rl_0, s_X11_problem_21, s_X11_problem_22, rg_0, rg_1, rg_2, rg_3, rg_4, rg_5, rg_6, rg_7, rg_8, rg_9, rg_10, rg_11, rg_12, rg_13, rg_14, rg_15, rg_16, rg_17, rg_18, rg_19, rg_20, rg_21, rg_22, rg_23, rg_24, rg_25, rg_26, rg_27, rg_28, rg_29, rg_30, rg_31, rg_32, rg_33, rg_34, rg_35, rg_36, rg_37, rg_38, rg_39, rg_40, rg_41, rg_42, rg_43, rg_44, rg_45, rg_46, rg_47, rg_48, rg_49, rg_50, rg_51, rg_52, rp_0, rp_4, rp_5, rp_14, rp_15, rp_26, rp_29, rp_30, rp_31, rp_32, rp_33, rp_35, rp_36, rp_38, rp_39, rp_41, rp_42, rp_44, rp_45, rp_47, rp_51, rz_1, rs_1, rz_2, rs_2, rz_3, rs_3, rz_6, rzW_6, rsW_6, rz_7, rs_7, rz_8, rs_8, rz_9, rzW_9, rsW_9, rz_10, rs_10, rz_11, rs_11, rz_12, rs_12, rz_13, rs_13, rz_16, rs_16, rz_17, rs_17, rz_18, rs_18, rz_19, rs_19, rz_20, rs_20, rz_21, rzW_21, rsW_21, rz_22, rs_22, rz_23, rs_23, rz_24, rs_24, rz_25, rs_25, rz_27, rzW_27, rsW_27, rz_28, rs_28, rz_34, rs_34, rz_37, rs_37, rz_40, rs_40, rz_43, rs_43, rz_46, rs_46, rz_48, rs_48, rz_49, rs_49, rz_50, rs_50, rz_52, rs_52, uI_1, uI_2, uR_1, uR_21, uR_22, uW_1, uW_21, uW_22, uW_3, uJ_1, uJ_21, uJ_22, uJ_3, rh_2, va_rf, Bool.false_eq_true, ae_Ki, ae_Kb, ae_Kj, ae_Ka, ae_Si, ae_Sb, ae_Sj, ae_Sn, List.getElem?_cons_succ, List.getElem?_cons_zero, ↓reduceIte, if_true, if_false, nI_ofNat, true_or, or_true, false_or, or_false, true_and, and_true, false_and, and_false, or_self, and_self, not_true_eq_false, not_false_eq_true, eq_self, List.length_cons, List.length_nil, Nat.reduceAdd, Nat.reduceLT, Nat.reduceSub, List.set_cons_succ, List.set_cons_zero, Option.toList, List.nil_append, List.cons_append, cI_ltT, cI_ltF, cI_leT, cI_leF, cI_eqT, cI_eqF, cI_cl, cN_leT, cN_leF, cN_ltT, cN_ltF, cN_eqT, cN_eqF, cI_add, cI_sub, cI_m1a, cI_m1b, cI_m1c, cI_m1d, cI_m1e, cI_m1f, g, t1, rdv]
        · simp (disch := first | exact ae_isR_ref _ | exact ae_isR_null | exact ae_isR_rf _ | exact ae_cat_ref _ | exact ae_cat_int _ | exact ae_cat_null | exact ae_cat_rf _ | exact ae_nz0 | exact ae_nz1 | exact ae_fz0 | exact ae_fz1 | exact cI_na (by omega) | exact cI_ix (by omega) | exact cI_nn (by omega) | exact cI_nz (by omega) | exact cI_cp (by omega) | assumption | omega) only [s_X11_problem_4, s_X11_problem_5, rg_0, rg_1, rg_2, rg_3, rg_4, rg_5, rg_6, rg_7, rg_8, rg_9, rg_10, rg_11, rg_12, rg_13, rg_14, rg_15, rg_16, rg_17, rg_18, rg_19, rg_20, rg_21, rg_22, rg_23, rg_24, rg_25, rg_26, rg_27, rg_28, rg_29, rg_30, rg_31, rg_32, rg_33, rg_34, rg_35, rg_36, rg_37, rg_38, rg_39, rg_40, rg_41, rg_42, rg_43, rg_44, rg_45, rg_46, rg_47, rg_48, rg_49, rg_50, rg_51, rg_52, rp_0, rp_4, rp_5, rp_14, rp_15, rp_26, rp_29, rp_30, rp_31, rp_32, rp_33, rp_35, rp_36, rp_38, rp_39, rp_41, rp_42, rp_44, rp_45, rp_47, rp_51, rz_1, rs_1, rz_2, rs_2, rz_3, rs_3, rz_6, rzW_6, rsW_6, rz_7, rs_7, rz_8, rs_8, rz_9, rzW_9, rsW_9, rz_10, rs_10, rz_11, rs_11, rz_12, rs_12, rz_13, rs_13, rz_16, rs_16, rz_17, rs_17, rz_18, rs_18, rz_19, rs_19, rz_20, rs_20, rz_21, rzW_21, rsW_21, rz_22, rs_22, rz_23, rs_23, rz_24, rs_24, rz_25, rs_25, rz_27, rzW_27, rsW_27, rz_28, rs_28, rz_34, rs_34, rz_37, rs_37, rz_40, rs_40, rz_43, rs_43, rz_46, rs_46, rz_48, rs_48, rz_49, rs_49, rz_50, rs_50, rz_52, rs_52, uI_1, uI_2, uR_1, uR_21, uR_22, uW_1, uW_21, uW_22, uW_3, uJ_1, uJ_21, uJ_22, uJ_3, rh_2, va_rf, Bool.false_eq_true, ae_Ki, ae_Kb, ae_Kj, ae_Ka, ae_Si, ae_Sb, ae_Sj, ae_Sn, List.getElem?_cons_succ, List.getElem?_cons_zero, ↓reduceIte, if_true, if_false, nI_ofNat, true_or, or_true, false_or, or_false, true_and, and_true, false_and, and_false, or_self, and_self, not_true_eq_false, not_false_eq_true, eq_self, List.length_cons, List.length_nil, Nat.reduceAdd, Nat.reduceLT, Nat.reduceSub, List.set_cons_succ, List.set_cons_zero, Option.toList, List.nil_append, List.cons_append, cI_ltT, cI_ltF, cI_leT, cI_leF, cI_eqT, cI_eqF, cI_cl, cN_leT, cN_leF, cN_ltT, cN_ltF, cN_eqT, cN_eqF, cI_add, cI_sub, cI_m1a, cI_m1b, cI_m1c, cI_m1d, cI_m1e, cI_m1f, ng_lt hv]
      | inr j =>
        rw [e] at g
        obtain ⟨b1, b2, b3, b4, b5⟩ := rdo_inr _ _ _ _ (by omega) e
        have b6 : at_ < j := by
          rcases Nat.lt_or_ge at_ j with z | z
          · exact z
          · have : j = at_ := by omega
            rw [this, sl_nil (Nat.le_refl _)] at b3
            simp [rn] at b3
        obtain ⟨a2, t2, i1, i2⟩ := ih j (t + 1) (by omega) b2 (by omega) (by omega)
        refine ⟨a2, t2, i1, ?_⟩
        refine Eq.trans ?_ (s_X11_problem_25.trans i2)
        simp (disch := first | exact ae_isR_ref _ | exact ae_isR_null | exact ae_isR_rf _ | exact ae_cat_ref _ | exact ae_cat_int _ | exact ae_cat_null | exact ae_cat_rf _ | exact ae_nz0 | exact ae_nz1 | exact ae_fz0 | exact ae_fz1 | exact cI_na (by omega) | exact cI_ix (by omega) | exact cI_nn (by omega) | exact cI_nz (by omega) | exact cI_cp (by omega) | assumption | omega) only [s_X11_problem_4, s_X11_problem_5, s_X11_problem_8, s_X11_problem_9, s_X11_problem_10, s_X11_problem_13, s_X11_problem_16, s_X11_problem_17, s_X11_problem_18 rl_0, s_X11_problem_21, s_X11_problem_22, rg_0, rg_1, rg_2, rg_3, rg_4, rg_5, rg_6, rg_7, rg_8, rg_9, rg_10, rg_11, rg_12, rg_13, rg_14, rg_15, rg_16, rg_17, rg_18, rg_19, rg_20, rg_21, rg_22, rg_23, rg_24, rg_25, rg_26, rg_27, rg_28, rg_29, rg_30, rg_31, rg_32, rg_33, rg_34, rg_35, rg_36, rg_37, rg_38, rg_39, rg_40, rg_41, rg_42, rg_43, rg_44, rg_45, rg_46, rg_47, rg_48, rg_49, rg_50, rg_51, rg_52, rp_0, rp_4, rp_5, rp_14, rp_15, rp_26, rp_29, rp_30, rp_31, rp_32, rp_33, rp_35, rp_36, rp_38, rp_39, rp_41, rp_42, rp_44, rp_45, rp_47, rp_51, rz_1, rs_1, rz_2, rs_2, rz_3, rs_3, rz_6, rzW_6, rsW_6, rz_7, rs_7, rz_8, rs_8, rz_9, rzW_9, rsW_9, rz_10, rs_10, rz_11, rs_11, rz_12, rs_12, rz_13, rs_13, rz_16, rs_16, rz_17, rs_17, rz_18, rs_18, rz_19, rs_19, rz_20, rs_20, rz_21, rzW_21, rsW_21, rz_22, rs_22, rz_23, rs_23, rz_24, rs_24, rz_25, rs_25, rz_27, rzW_27, rsW_27, rz_28, rs_28, rz_34, rs_34, rz_37, rs_37, rz_40, rs_40, rz_43, rs_43, rz_46, rs_46, rz_48, rs_48, rz_49, rs_49, rz_50, rs_50, rz_52, rs_52, uI_1, uI_2, uR_1, uR_21, uR_22, uW_1, uW_21, uW_22, uW_3, uJ_1, uJ_21, uJ_22, uJ_3, rh_2, va_rf, Bool.false_eq_true, ae_Ki, ae_Kb, ae_Kj, ae_Ka, ae_Si, ae_Sb, ae_Sj, ae_Sn, List.getElem?_cons_succ, List.getElem?_cons_zero, ↓reduceIte, if_true, if_false, nI_ofNat, true_or, or_true, false_or, or_false, true_and, and_true, false_and, and_false, or_self, and_self, not_true_eq_false, not_false_eq_true, eq_self, List.length_cons, List.length_nil, Nat.reduceAdd, Nat.reduceLT, Nat.reduceSub, List.set_cons_succ, List.set_cons_zero, Option.toList, List.nil_append, List.cons_append, cI_ltT, cI_ltF, cI_leT, cI_leF, cI_eqT, cI_eqF, cI_cl, cN_leT, cN_leF, cN_ltT, cN_ltF, cN_eqT, cN_eqF, cI_add, cI_sub, cI_m1a, cI_m1b, cI_m1c, cI_m1d, cI_m1e, cI_m1f, g, t1, rdv]
    · have e : at_ = tp.length := by omega
      subst e
      rw [if_neg c]
      refine ⟨nI tp.length, t, Or.inr ⟨rfl, rfl, by omega⟩, ?_⟩
      simp (disch := first | exact ae_isR_ref _ | exact ae_isR_null | exact ae_isR_rf _ | exact ae_cat_ref _ | exact ae_cat_int _ | exact ae_cat_null | exact ae_cat_rf _ | exact ae_nz0 | exact ae_nz1 | exact ae_fz0 | exact ae_fz1 | exact cI_na (by omega) | exact cI_ix (by omega) | exact cI_nn (by omega) | exact cI_nz (by omega) | exact cI_cp (by omega) | assumption | omega) only [s_X11_problem_4, s_X11_problem_5, s_X11_problem_8, s_X11_problem_9, s_X11_problem_10, s_X11_problem_13, rg_0, rg_1, rg_2, rg_3, rg_4, rg_5, rg_6, rg_7, rg_8, rg_9, rg_10, rg_11, rg_12, rg_13, rg_14, rg_15, rg_16, rg_17, rg_18, rg_19, rg_20, rg_21, rg_22, rg_23, rg_24, rg_25, rg_26, rg_27, rg_28, rg_29, rg_30, rg_31, rg_32, rg_33, rg_34, rg_35, rg_36, rg_37, rg_38, rg_39, rg_40, rg_41, rg_42, rg_43, rg_44, rg_45, rg_46, rg_47, rg_48, rg_49, rg_50, rg_51, rg_52, rp_0, rp_4, rp_5, rp_14, rp_15, rp_26, rp_29, rp_30, rp_31, rp_32, rp_33, rp_35, rp_36, rp_38, rp_39, rp_41, rp_42, rp_44, rp_45, rp_47, rp_51, rz_1, rs_1, rz_2, rs_2, rz_3, rs_3, rz_6, rzW_6, rsW_6, rz_7, rs_7, rz_8, rs_8, rz_9, rzW_9, rsW_9, rz_10, rs_10, rz_11, rs_11, rz_12, rs_12, rz_13, rs_13, rz_16, rs_16, rz_17, rs_17, rz_18, rs_18, rz_19, rs_19, rz_20, rs_20, rz_21, rzW_21, rsW_21, rz_22, rs_22, rz_23, rs_23, rz_24, rs_24, rz_25, rs_25, rz_27, rzW_27, rsW_27, rz_28, rs_28, rz_34, rs_34, rz_37, rs_37, rz_40, rs_40, rz_43, rs_43, rz_46, rs_46, rz_48, rs_48, rz_49, rs_49, rz_50, rs_50, rz_52, rs_52, uI_1, uI_2, uR_1, uR_21, uR_22, uW_1, uW_21, uW_22, uW_3, uJ_1, uJ_21, uJ_22, uJ_3, rh_2, va_rf, Bool.false_eq_true, ae_Ki, ae_Kb, ae_Kj, ae_Ka, ae_Si, ae_Sb, ae_Sj, ae_Sn, List.getElem?_cons_succ, List.getElem?_cons_zero, ↓reduceIte, if_true, if_false, nI_ofNat, true_or, or_true, false_or, or_false, true_and, and_true, false_and, and_false, or_self, and_self, not_true_eq_false, not_false_eq_true, eq_self, List.length_cons, List.length_nil, Nat.reduceAdd, Nat.reduceLT, Nat.reduceSub, List.set_cons_succ, List.set_cons_zero, Option.toList, List.nil_append, List.cons_append, cI_ltT, cI_ltF, cI_leT, cI_leF, cI_eqT, cI_eqF, cI_cl, cN_leT, cN_leF, cN_ltT, cN_ltF, cN_eqT, cN_eqF, cI_add, cI_sub, cI_m1a, cI_m1b, cI_m1c, cI_m1d, cI_m1e, cI_m1f, t1]
theorem m_X11_pr_give {v0 : rS} (t2 : rowl tp (v0.2.1 3)) (ht : tp.length ≤ 120) {l1 l2 l3 : Option Value} : ∀ (m k : Nat), k + m = tp.length → ae_wp (d + 3) mX11_problem 78 [some (.ref q), l1, l2, l3, some (.int (nI tp.length)), some (.int (nI k))] [] (rh h q (nb v0 (tp.take k) [])) Q = ae_wp (d + 3) mX11_problem 102 [some (.ref q), l1, l2, l3, some (.int (nI tp.length)), some (.int (nI tp.length))] [] (rh h q (nb v0 tp [])) Q := by
  intro m
  induction m with
  | zero =>
    intro k hk
    have e : k = tp.length := by omega
    subst e
    rw [List.take_length]
    simp (disch := first | exact ae_isR_ref _ | exact ae_isR_null | exact ae_isR_rf _ | exact ae_cat_ref _ | exact ae_cat_int _ | exact ae_cat_null | exact ae_cat_rf _ | exact ae_nz0 | exact ae_nz1 | exact ae_fz0 | exact ae_fz1 | exact cI_na (by omega) | exact cI_ix (by omega) | exact cI_nn (by omega) | exact cI_nz (by omega) | exact cI_cp (by omega) | assumption | omega) only [s_X11_problem_78, s_X11_problem_80, s_X11_problem_82, rg_0, rg_1, rg_2, rg_3, rg_4, rg_5, rg_6, rg_7, rg_8, rg_9, rg_10, rg_11, rg_12, rg_13, rg_14, rg_15, rg_16, rg_17, rg_18, rg_19, rg_20, rg_21, rg_22, rg_23, rg_24, rg_25, rg_26, rg_27, rg_28, rg_29, rg_30, rg_31, rg_32, rg_33, rg_34, rg_35, rg_36, rg_37, rg_38, rg_39, rg_40, rg_41, rg_42, rg_43, rg_44, rg_45, rg_46, rg_47, rg_48, rg_49, rg_50, rg_51, rg_52, rp_0, rp_4, rp_5, rp_14, rp_15, rp_26, rp_29, rp_30, rp_31, rp_32, rp_33, rp_35, rp_36, rp_38, rp_39, rp_41, rp_42, rp_44, rp_45, rp_47, rp_51, rz_1, rs_1, rz_2, rs_2, rz_3, rs_3, rz_6, rzW_6, rsW_6, rz_7, rs_7, rz_8, rs_8, rz_9, rzW_9, rsW_9, rz_10, rs_10, rz_11, rs_11, rz_12, rs_12, rz_13, rs_13, rz_16, rs_16, rz_17, rs_17, rz_18, rs_18, rz_19, rs_19, rz_20, rs_20, rz_21, rzW_21, rsW_21, rz_22, rs_22, rz_23, rs_23, rz_24, rs_24, rz_25, rs_25, rz_27, rzW_27, rsW_27, rz_28, rs_28, rz_34, rs_34, rz_37, rs_37, rz_40, rs_40, rz_43, rs_43, rz_46, rs_46, rz_48, rs_48, rz_49, rs_49, rz_50, rs_50, rz_52, rs_52, uI_1, uI_2, uR_1, uR_21, uR_22, uW_1, uW_21, uW_22, uW_3, uJ_1, uJ_21, uJ_22, uJ_3, rh_2, va_rf, Bool.false_eq_true, ae_Ki, ae_Kb, ae_Kj, ae_Ka, ae_Si, ae_Sb, ae_Sj, ae_Sn, List.getElem?_cons_succ, List.getElem?_cons_zero, ↓reduceIte, if_true, if_false, nI_ofNat, true_or, or_true, false_or, or_false, true_and, and_true, false_and, and_false, or_self, and_self, not_true_eq_false, not_false_eq_true, eq_self, List.length_cons, List.length_nil, Nat.reduceAdd, Nat.reduceLT, Nat.reduceSub, List.set_cons_succ, List.set_cons_zero, Option.toList, List.nil_append, List.cons_append, cI_ltT, cI_ltF, cI_leT, cI_leF, cI_eqT, cI_eqF, cI_cl, cN_leT, cN_leF, cN_ltT, cN_ltF, cN_eqT, cN_eqF, cI_add, cI_sub, cI_m1a, cI_m1b, cI_m1c, cI_m1d, cI_m1e, cI_m1f]
  | succ m ih =>
    intro k hk
    have hkl : k < tp.length := by omega
    have h1 := t2 k hkl
    refine Eq.trans ?_ (s_X11_problem_99.trans (ih (k + 1) (by omega)))
    rw [take_succ_getD hkl]
    simp (disch := first | exact ae_isR_ref _ | exact ae_isR_null | exact ae_isR_rf _ | exact ae_cat_ref _ | exact ae_cat_int _ | exact ae_cat_null | exact ae_cat_rf _ | exact ae_nz0 | exact ae_nz1 | exact ae_fz0 | exact ae_fz1 | exact cI_na (by omega) | exact cI_ix (by omega) | exact cI_nn (by omega) | exact cI_nz (by omega) | exact cI_cp (by omega) | assumption | omega) only [s_X11_problem_78, s_X11_problem_80, s_X11_problem_82, s_X11_problem_85, s_X11_problem_86, s_X11_problem_87, s_X11_problem_90, s_X11_problem_92, s_X11_problem_93 rl_0, s_X11_problem_96, rg_0, rg_1, rg_2, rg_3, rg_4, rg_5, rg_6, rg_7, rg_8, rg_9, rg_10, rg_11, rg_12, rg_13, rg_14, rg_15, rg_16, rg_17, rg_18, rg_19, rg_20, rg_21, rg_22, rg_23, rg_24, rg_25, rg_26, rg_27, rg_28, rg_29, rg_30, rg_31, rg_32, rg_33, rg_34, rg_35, rg_36, rg_37, rg_38, rg_39, rg_40, rg_41, rg_42, rg_43, rg_44, rg_45, rg_46, rg_47, rg_48, rg_49, rg_50, rg_51, rg_52, rp_0, rp_4, rp_5, rp_14, rp_15, rp_26, rp_29, rp_30, rp_31, rp_32, rp_33, rp_35, rp_36, rp_38, rp_39, rp_41, rp_42, rp_44, rp_45, rp_47, rp_51, rz_1, rs_1, rz_2, rs_2, rz_3, rs_3, rz_6, rzW_6, rsW_6, rz_7, rs_7, rz_8, rs_8, rz_9, rzW_9, rsW_9, rz_10, rs_10, rz_11, rs_11, rz_12, rs_12, rz_13, rs_13, rz_16, rs_16, rz_17, rs_17, rz_18, rs_18, rz_19, rs_19, rz_20, rs_20, rz_21, rzW_21, rsW_21, rz_22, rs_22, rz_23, rs_23, rz_24, rs_24, rz_25, rs_25, rz_27, rzW_27, rsW_27, rz_28, rs_28, rz_34, rs_34, rz_37, rs_37, rz_40, rs_40, rz_43, rs_43, rz_46, rs_46, rz_48, rs_48, rz_49, rs_49, rz_50, rs_50, rz_52, rs_52, uI_1, uI_2, uR_1, uR_21, uR_22, uW_1, uW_21, uW_22, uW_3, uJ_1, uJ_21, uJ_22, uJ_3, rh_2, va_rf, Bool.false_eq_true, ae_Ki, ae_Kb, ae_Kj, ae_Ka, ae_Si, ae_Sb, ae_Sj, ae_Sn, List.getElem?_cons_succ, List.getElem?_cons_zero, ↓reduceIte, if_true, if_false, nI_ofNat, true_or, or_true, false_or, or_false, true_and, and_true, false_and, and_false, or_self, and_self, not_true_eq_false, not_false_eq_true, eq_self, List.length_cons, List.length_nil, Nat.reduceAdd, Nat.reduceLT, Nat.reduceSub, List.set_cons_succ, List.set_cons_zero, Option.toList, List.nil_append, List.cons_append, cI_ltT, cI_ltF, cI_leT, cI_leF, cI_eqT, cI_eqF, cI_cl, cN_leT, cN_leF, cN_ltT, cN_ltF, cN_eqT, cN_eqF, cI_add, cI_sub, cI_m1a, cI_m1b, cI_m1c, cI_m1d, cI_m1e, cI_m1f, nb_R, h1, m_X11_give]
theorem m_X11_pr_unk {v1 : rS} {l1 l2 l3 l4 : Option Value} {g : Nat → Int32} : ∀ (m k : Nat), k + m = 10 → ae_wp (d + 3) mX11_problem 112 [some (.ref q), l1, l2, l3, l4, some (.int (nI k))] [] (rh h q (uR v1 43 (lf (unk.take k) g))) Q = ae_wp (d + 3) mX11_problem 137 [some (.ref q), l1, l2, l3, l4, some (.int (nI 10))] [] (rh h q (uR v1 43 (lf unk g))) Q := by
  intro m
  induction m with
  | zero =>
    intro k hk
    have e : k = 10 := by omega
    subst e
    have e2 : unk.take 10 = unk := List.take_of_length_le (by rw [unk_len]; exact Nat.le_refl _)
    rw [e2]
    simp (disch := first | exact ae_isR_ref _ | exact ae_isR_null | exact ae_isR_rf _ | exact ae_cat_ref _ | exact ae_cat_int _ | exact ae_cat_null | exact ae_cat_rf _ | exact ae_nz0 | exact ae_nz1 | exact ae_fz0 | exact ae_fz1 | exact cI_na (by omega) | exact cI_ix (by omega) | exact cI_nn (by omega) | exact cI_nz (by omega) | exact cI_cp (by omega) | assumption | omega) only [s_X11_problem_112, s_X11_problem_114, s_X11_problem_116, rg_0, rg_1, rg_2, rg_3, rg_4, rg_5, rg_6, rg_7, rg_8, rg_9, rg_10, rg_11, rg_12, rg_13, rg_14, rg_15, rg_16, rg_17, rg_18, rg_19, rg_20, rg_21, rg_22, rg_23, rg_24, rg_25, rg_26, rg_27, rg_28, rg_29, rg_30, rg_31, rg_32, rg_33, rg_34, rg_35, rg_36, rg_37, rg_38, rg_39, rg_40, rg_41, rg_42, rg_43, rg_44, rg_45, rg_46, rg_47, rg_48, rg_49, rg_50, rg_51, rg_52, rp_0, rp_4, rp_5, rp_14, rp_15, rp_26, rp_29, rp_30, rp_31, rp_32, rp_33, rp_35, rp_36, rp_38, rp_39, rp_41, rp_42, rp_44, rp_45, rp_47, rp_51, rz_1, rs_1, rz_2, rs_2, rz_3, rs_3, rz_6, rzW_6, rsW_6, rz_7, rs_7, rz_8, rs_8, rz_9, rzW_9, rsW_9, rz_10, rs_10, rz_11, rs_11, rz_12, rs_12, rz_13, rs_13, rz_16, rs_16, rz_17, rs_17, rz_18, rs_18, rz_19, rs_19, rz_20, rs_20, rz_21, rzW_21, rsW_21, rz_22, rs_22, rz_23, rs_23, rz_24, rs_24, rz_25, rs_25, rz_27, rzW_27, rsW_27, rz_28, rs_28, rz_34, rs_34, rz_37, rs_37, rz_40, rs_40, rz_43, rs_43, rz_46, rs_46, rz_48, rs_48, rz_49, rs_49, rz_50, rs_50, rz_52, rs_52, uI_1, uI_2, uR_1, uR_21, uR_22, uW_1, uW_21, uW_22, uW_3, uJ_1, uJ_21, uJ_22, uJ_3, rh_2, va_rf, Bool.false_eq_true, ae_Ki, ae_Kb, ae_Kj, ae_Ka, ae_Si, ae_Sb, ae_Sj, ae_Sn, List.getElem?_cons_succ, List.getElem?_cons_zero, ↓reduceIte, if_true, if_false, nI_ofNat, true_or, or_true, false_or, or_false, true_and, and_true, false_and, and_false, or_self, and_self, not_true_eq_false, not_false_eq_true, eq_self, List.length_cons, List.length_nil, Nat.reduceAdd, Nat.reduceLT, Nat.reduceSub, List.set_cons_succ, List.set_cons_zero, Option.toList, List.nil_append, List.cons_append, cI_ltT, cI_ltF, cI_leT, cI_leF, cI_eqT, cI_eqF, cI_cl, cN_leT, cN_leF, cN_ltT, cN_ltF, cN_eqT, cN_eqF, cI_add, cI_sub, cI_m1a, cI_m1b, cI_m1c, cI_m1d, cI_m1e, cI_m1f]
  | succ m ih =>
    intro k hk
    have hkl : k < unk.length := by rw [unk_len]; omega
    refine Eq.trans ?_ (s_X11_problem_134.trans (ih (k + 1) (by omega)))
    have e1 := lf_take (T := unk) (g := g) hkl
    have e2 : ∀ k, k < 10 → unk.getD k 0 = 100 + k := by decide
    rw [e2 k (by omega)] at e1
    simp (disch := first | exact ae_isR_ref _ | exact ae_isR_null | exact ae_isR_rf _ | exact ae_cat_ref _ | exact ae_cat_int _ | exact ae_cat_null | exact ae_cat_rf _ | exact ae_nz0 | exact ae_nz1 | exact ae_fz0 | exact ae_fz1 | exact cI_na (by omega) | exact cI_ix (by omega) | exact cI_nn (by omega) | exact cI_nz (by omega) | exact cI_cp (by omega) | assumption | omega) only [s_X11_problem_112, s_X11_problem_114, s_X11_problem_116, s_X11_problem_119, s_X11_problem_120, s_X11_problem_123, s_X11_problem_125, s_X11_problem_127, s_X11_problem_129, s_X11_problem_130, s_X11_problem_131, rg_0, rg_1, rg_2, rg_3, rg_4, rg_5, rg_6, rg_7, rg_8, rg_9, rg_10, rg_11, rg_12, rg_13, rg_14, rg_15, rg_16, rg_17, rg_18, rg_19, rg_20, rg_21, rg_22, rg_23, rg_24, rg_25, rg_26, rg_27, rg_28, rg_29, rg_30, rg_31, rg_32, rg_33, rg_34, rg_35, rg_36, rg_37, rg_38, rg_39, rg_40, rg_41, rg_42, rg_43, rg_44, rg_45, rg_46, rg_47, rg_48, rg_49, rg_50, rg_51, rg_52, rp_0, rp_4, rp_5, rp_14, rp_15, rp_26, rp_29, rp_30, rp_31, rp_32, rp_33, rp_35, rp_36, rp_38, rp_39, rp_41, rp_42, rp_44, rp_45, rp_47, rp_51, rz_1, rs_1, rz_2, rs_2, rz_3, rs_3, rz_6, rzW_6, rsW_6, rz_7, rs_7, rz_8, rs_8, rz_9, rzW_9, rsW_9, rz_10, rs_10, rz_11, rs_11, rz_12, rs_12, rz_13, rs_13, rz_16, rs_16, rz_17, rs_17, rz_18, rs_18, rz_19, rs_19, rz_20, rs_20, rz_21, rzW_21, rsW_21, rz_22, rs_22, rz_23, rs_23, rz_24, rs_24, rz_25, rs_25, rz_27, rzW_27, rsW_27, rz_28, rs_28, rz_34, rs_34, rz_37, rs_37, rz_40, rs_40, rz_43, rs_43, rz_46, rs_46, rz_48, rs_48, rz_49, rs_49, rz_50, rs_50, rz_52, rs_52, uI_1, uI_2, uR_1, uR_21, uR_22, uW_1, uW_21, uW_22, uW_3, uJ_1, uJ_21, uJ_22, uJ_3, rh_2, va_rf, Bool.false_eq_true, ae_Ki, ae_Kb, ae_Kj, ae_Ka, ae_Si, ae_Sb, ae_Sj, ae_Sn, List.getElem?_cons_succ, List.getElem?_cons_zero, ↓reduceIte, if_true, if_false, nI_ofNat, true_or, or_true, false_or, or_false, true_and, and_true, false_and, and_false, or_self, and_self, not_true_eq_false, not_false_eq_true, eq_self, List.length_cons, List.length_nil, Nat.reduceAdd, Nat.reduceLT, Nat.reduceSub, List.set_cons_succ, List.set_cons_zero, Option.toList, List.nil_append, List.cons_append, cI_ltT, cI_ltF, cI_leT, cI_leF, cI_eqT, cI_eqF, cI_cl, cN_leT, cN_leF, cN_ltT, cN_ltF, cN_eqT, cN_eqF, cI_add, cI_sub, cI_m1a, cI_m1b, cI_m1c, cI_m1d, cI_m1e, cI_m1f, uR_uR, e1]
theorem nb_unk (s : rS) (L : List Nat) : uI (uR (nb s L []) 43 (lf unk (s.2.1 43))) 44 (nI 10) = nb s L unk := by
  refine nb_eq (fun j => ?_) (fun j => ?_) rfl
  · rw [uI_1, uR_1]
    by_cases e1 : j = 44
    · subst e1; rw [if_pos rfl]; rfl
    · rw [if_neg e1]
      by_cases e2 : j = 41
      · subst e2; rfl
      · by_cases e3 : j = 45
        · subst e3
          rw [nb_45, nb_45]
          have : (2500 < L.length ∨ 2500 < ([] : List Nat).length) ↔ (2500 < L.length ∨ 2500 < unk.length) := by rw [unk_len]; simp
          simp only [this]
        · rw [nb_I ⟨e2, e1, e3⟩, nb_I ⟨e2, e1, e3⟩]
  · rw [uI_2, uR_21]
    by_cases e1 : j = 43
    · subst e1
      rw [if_pos rfl, nb_43]
      have e2 : unk.take 2500 = unk := List.take_of_length_le (by rw [unk_len]; decide)
      rw [e2]
    · rw [if_neg e1]
      by_cases e2 : j = 40
      · subst e2; rfl
      · rw [nb_R ⟨e2, e1⟩, nb_R ⟨e2, e1⟩]
theorem half_ok : ∀ t, t < 201 → nI t / nI 2 = nI (t / 2) ∧ nI t - nI (t / 2) * nI 2 = nI (t % 2) := by decide +kernel
theorem m12_0 : ((-12 : Int32) = nI 0) = False := eq_false (by decide +kernel)
theorem m_X11_problem (ht : rTape s tp) (hA : arl A ns (s.2.1 2)) (hn : s.1 0 = nI ns) : match prb A ns tp with
    | .inl f => ∀ Q, ae_wm (d + 3) mX11_problem [.ref q] (rh h q s) Q = Q (some (.int f)) (rh h q (uI s 4 (nI 0)))
    | .inr mn => ∃ s2, (∀ Q, ae_wm (d + 3) mX11_problem [.ref q] (rh h q s) Q = Q (some (.int (nI mn))) (rh h q s2)) ∧ rSv s2 (svb tp mn) ∧ frm s s2 [4, 26, 29, 30, 31, 32, 33, 41, 42, 44, 45] [22, 23, 24, 25, 28, 40, 43] [21, 27] := by
  have t1 := ht.1
  have t3 := ht.2.2.1
  unfold prb
  cases e : prl A ns tp 121 0 0 with
  | inl f =>
    dsimp only
    intro Q
    obtain ⟨a2, t2, i1, i2⟩ := m_X11_pr_loop (d := d) (Q := Q) (h := h) (q := q) ht hA hn (l3 := none) (l4 := none) (l5 := none) 121 0 0 (by omega) (by omega) (by omega) (by omega)
    rw [e] at i1
    rcases i1 with ⟨j1, j2⟩ | ⟨j1, _⟩
    · cases j1
      simp (disch := first | exact ae_isR_ref _ | exact ae_isR_null | exact ae_isR_rf _ | exact ae_cat_ref _ | exact ae_cat_int _ | exact ae_cat_null | exact ae_cat_rf _ | exact ae_nz0 | exact ae_nz1 | exact ae_fz0 | exact ae_fz1 | exact cI_na (by omega) | exact cI_ix (by omega) | exact cI_nn (by omega) | exact cI_nz (by omega) | exact cI_cp (by omega) | assumption | omega) only [s_X11_problem_0, s_X11_problem_1, s_X11_problem_2, s_X11_problem_3, e_X11_problem, i2, s_X11_problem_28, s_X11_problem_29, s_X11_problem_32, s_X11_problem_33, s_X11_problem_36, s_X11_problem_37, s_X11_problem_38, s_X11_problem_39, s_X11_problem_40, s_X11_problem_43, s_X11_problem_45, s_X11_problem_48, s_X11_problem_49, s_X11_problem_50, s_X11_problem_51, s_X11_problem_54, s_X11_problem_56, s_X11_problem_57, s_X11_problem_58, s_X11_problem_61, s_X11_problem_62, s_X11_problem_65, s_X11_problem_66, rg_0, rg_1, rg_2, rg_3, rg_4, rg_5, rg_6, rg_7, rg_8, rg_9, rg_10, rg_11, rg_12, rg_13, rg_14, rg_15, rg_16, rg_17, rg_18, rg_19, rg_20, rg_21, rg_22, rg_23, rg_24, rg_25, rg_26, rg_27, rg_28, rg_29, rg_30, rg_31, rg_32, rg_33, rg_34, rg_35, rg_36, rg_37, rg_38, rg_39, rg_40, rg_41, rg_42, rg_43, rg_44, rg_45, rg_46, rg_47, rg_48, rg_49, rg_50, rg_51, rg_52, rp_0, rp_4, rp_5, rp_14, rp_15, rp_26, rp_29, rp_30, rp_31, rp_32, rp_33, rp_35, rp_36, rp_38, rp_39, rp_41, rp_42, rp_44, rp_45, rp_47, rp_51, rz_1, rs_1, rz_2, rs_2, rz_3, rs_3, rz_6, rzW_6, rsW_6, rz_7, rs_7, rz_8, rs_8, rz_9, rzW_9, rsW_9, rz_10, rs_10, rz_11, rs_11, rz_12, rs_12, rz_13, rs_13, rz_16, rs_16, rz_17, rs_17, rz_18, rs_18, rz_19, rs_19, rz_20, rs_20, rz_21, rzW_21, rsW_21, rz_22, rs_22, rz_23, rs_23, rz_24, rs_24, rz_25, rs_25, rz_27, rzW_27, rsW_27, rz_28, rs_28, rz_34, rs_34, rz_37, rs_37, rz_40, rs_40, rz_43, rs_43, rz_46, rs_46, rz_48, rs_48, rz_49, rs_49, rz_50, rs_50, rz_52, rs_52, uI_1, uI_2, uR_1, uR_21, uR_22, uW_1, uW_21, uW_22, uW_3, uJ_1, uJ_21, uJ_22, uJ_3, rh_2, va_rf, Bool.false_eq_true, ae_Ki, ae_Kb, ae_Kj, ae_Ka, ae_Si, ae_Sb, ae_Sj, ae_Sn, List.getElem?_cons_succ, List.getElem?_cons_zero, ↓reduceIte, if_true, if_false, nI_ofNat, true_or, or_true, false_or, or_false, true_and, and_true, false_and, and_false, or_self, and_self, not_true_eq_false, not_false_eq_true, eq_self, List.length_cons, List.length_nil, Nat.reduceAdd, Nat.reduceLT, Nat.reduceSub, List.set_cons_succ, List.set_cons_zero, Option.toList, List.nil_append, List.cons_append, cI_ltT, cI_ltF, cI_leT, cI_leF, cI_eqT, cI_eqF, cI_cl, cN_leT, cN_leF, cN_ltT, cN_ltF, cN_eqT, cN_eqF, cI_add, cI_sub, cI_m1a, cI_m1b, cI_m1c, cI_m1d, cI_m1e, cI_m1f, t1, ng_le j2, ng_ne j2]
    · cases j1
  | inr t =>
    dsimp only
    have hrn := (prl_inr 121 0 0 t (by omega) (by omega) e)
    have ht200 : t ≤ 200 := by omega
    have i2 : ∀ Q, ae_wp (d + 3) mX11_problem 4 [some (.ref q), some (.int (nI 0)), some (.int (nI 0)), none, none, none] [] (rh h q s) Q = ae_wp (d + 3) mX11_problem 28 [some (.ref q), some (.int (nI tp.length)), some (.int (nI t)), none, none, none] [] (rh h q s) Q := by
      intro Q
      obtain ⟨a2, t2, i1, i2⟩ := m_X11_pr_loop (d := d) (Q := Q) (h := h) (q := q) ht hA hn (l3 := none) (l4 := none) (l5 := none) 121 0 0 (by omega) (by omega) (by omega) (by omega)
      rw [e] at i1
      rcases i1 with ⟨j1, j2⟩ | ⟨j1, j2, j3⟩
      · cases j1
      · cases j1
        rw [i2, j2]
    obtain ⟨hh1, hh2⟩ := half_ok t (by omega)
    by_cases c : t % 2 = 1
    · rw [if_pos c]
      rw [c] at hh2
      intro Q
      simp (disch := first | exact ae_isR_ref _ | exact ae_isR_null | exact ae_isR_rf _ | exact ae_cat_ref _ | exact ae_cat_int _ | exact ae_cat_null | exact ae_cat_rf _ | exact ae_nz0 | exact ae_nz1 | exact ae_fz0 | exact ae_fz1 | exact cI_na (by omega) | exact cI_ix (by omega) | exact cI_nn (by omega) | exact cI_nz (by omega) | exact cI_cp (by omega) | assumption | omega) only [s_X11_problem_0, s_X11_problem_1, s_X11_problem_2, s_X11_problem_3, e_X11_problem, i2, s_X11_problem_28, s_X11_problem_29, s_X11_problem_32, s_X11_problem_33, s_X11_problem_36, s_X11_problem_37, s_X11_problem_38, s_X11_problem_39, s_X11_problem_40, s_X11_problem_43, s_X11_problem_45, s_X11_problem_48, s_X11_problem_49, s_X11_problem_50, s_X11_problem_51, s_X11_problem_54, s_X11_problem_56, s_X11_problem_57, s_X11_problem_58, s_X11_problem_61, s_X11_problem_62, s_X11_problem_65, s_X11_problem_66, rg_0, rg_1, rg_2, rg_3, rg_4, rg_5, rg_6, rg_7, rg_8, rg_9, rg_10, rg_11, rg_12, rg_13, rg_14, rg_15, rg_16, rg_17, rg_18, rg_19, rg_20, rg_21, rg_22, rg_23, rg_24, rg_25, rg_26, rg_27, rg_28, rg_29, rg_30, rg_31, rg_32, rg_33, rg_34, rg_35, rg_36, rg_37, rg_38, rg_39, rg_40, rg_41, rg_42, rg_43, rg_44, rg_45, rg_46, rg_47, rg_48, rg_49, rg_50, rg_51, rg_52, rp_0, rp_4, rp_5, rp_14, rp_15, rp_26, rp_29, rp_30, rp_31, rp_32, rp_33, rp_35, rp_36, rp_38, rp_39, rp_41, rp_42, rp_44, rp_45, rp_47, rp_51, rz_1, rs_1, rz_2, rs_2, rz_3, rs_3, rz_6, rzW_6, rsW_6, rz_7, rs_7, rz_8, rs_8, rz_9, rzW_9, rsW_9, rz_10, rs_10, rz_11, rs_11, rz_12, rs_12, rz_13, rs_13, rz_16, rs_16, rz_17, rs_17, rz_18, rs_18, rz_19, rs_19, rz_20, rs_20, rz_21, rzW_21, rsW_21, rz_22, rs_22, rz_23, rs_23, rz_24, rs_24, rz_25, rs_25, rz_27, rzW_27, rsW_27, rz_28, rs_28, rz_34, rs_34, rz_37, rs_37, rz_40, rs_40, rz_43, rs_43, rz_46, rs_46, rz_48, rs_48, rz_49, rs_49, rz_50, rs_50, rz_52, rs_52, uI_1, uI_2, uR_1, uR_21, uR_22, uW_1, uW_21, uW_22, uW_3, uJ_1, uJ_21, uJ_22, uJ_3, rh_2, va_rf, Bool.false_eq_true, ae_Ki, ae_Kb, ae_Kj, ae_Ka, ae_Si, ae_Sb, ae_Sj, ae_Sn, List.getElem?_cons_succ, List.getElem?_cons_zero, ↓reduceIte, if_true, if_false, nI_ofNat, true_or, or_true, false_or, or_false, true_and, and_true, false_and, and_false, or_self, and_self, not_true_eq_false, not_false_eq_true, eq_self, List.length_cons, List.length_nil, Nat.reduceAdd, Nat.reduceLT, Nat.reduceSub, List.set_cons_succ, List.set_cons_zero, Option.toList, List.nil_append, List.cons_append, cI_ltT, cI_ltF, cI_leT, cI_leF, cI_eqT, cI_eqF, cI_cl, cN_leT, cN_leF, cN_ltT, cN_ltF, cN_eqT, cN_eqF, cI_add, cI_sub, cI_m1a, cI_m1b, cI_m1c, cI_m1d, cI_m1e, cI_m1f, t1, hh1, hh2, m12_0]
    · rw [if_neg c]
      have c0 : t % 2 = 0 := by omega
      rw [c0] at hh2
      dsimp only
      generalize hmn : t / 2 = mn at hh1 hh2
      have hm200 : mn ≤ 200 := by omega
      have g1 := fun Q => m_X11_pr_give (d := d) (Q := Q) (h := h) (q := q) (tp := tp) (v0 := uI (rfg (uI s 4 (nI 0))) 42 (nI 0)) ht.2.1 t3 (l1 := some (.int (nI tp.length))) (l2 := some (.int (nI t))) (l3 := some (.int (nI 0))) tp.length 0 (by omega)
      rw [List.take_zero] at g1
      have g2 := fun Q => m_X11_pr_unk (d := d) (Q := Q) (h := h) (q := q) (v1 := nb (uI (uI (rfg (uI s 4 (nI 0))) 42 (nI 0)) 42 (nI mn)) tp []) (l1 := some (.int (nI tp.length))) (l2 := some (.int (nI t))) (l3 := some (.int (nI 0))) (l4 := some (.int (nI tp.length))) (g := (uI (uI (rfg (uI s 4 (nI 0))) 42 (nI 0)) 42 (nI mn)).2.1 43) 10 0 (by omega)
      rw [List.take_zero, lf_nil] at g2
      rw [show uR (nb (uI (uI (rfg (uI s 4 (nI 0))) 42 (nI 0)) 42 (nI mn)) tp []) 43 ((uI (uI (rfg (uI s 4 (nI 0))) 42 (nI 0)) 42 (nI mn)).2.1 43) = nb (uI (uI (rfg (uI s 4 (nI 0))) 42 (nI 0)) 42 (nI mn)) tp [] from uR_same (nb (uI (uI (rfg (uI s 4 (nI 0))) 42 (nI 0)) 42 (nI mn)) tp []) 43] at g2
      have g3 := nb_unk (uI (uI (rfg (uI s 4 (nI 0))) 42 (nI 0)) 42 (nI mn)) tp
      have hf0 : frm s (uI (uI (rfg (uI s 4 (nI 0))) 42 (nI 0)) 42 (nI mn)) [4, 26, 29, 30, 31, 32, 33, 42] [] [] := by
        refine ⟨fun k hk => ?_, fun _ _ => rfl, fun _ _ => rfl⟩
        simp only [List.mem_cons, List.not_mem_nil, or_false, not_or] at hk
        simp [rfg, uI, hk]
      generalize hv1 : uI (uI (rfg (uI s 4 (nI 0))) 42 (nI 0)) 42 (nI mn) = v1 at g2 g3 hf0
      have hsv : rSv v1 ([], [], nI 0, nI 0, nI 0, nI 0) := by
        rw [← hv1]
        exact ⟨⟨by simp [rfg, uI], by simp, fun j hj => by simp at hj⟩, ⟨by simp [rfg, uI], by simp, fun j hj => by simp at hj⟩, by simp [rfg, uI], by simp [rfg, uI], by simp [rfg, uI], by simp [rfg, uI]⟩
      obtain ⟨s2, k1, k2, k3⟩ := m_X11_keepM (d := d + 2) (h := h) (q := q) (L := tp) (T := unk) (nx := 10) (mn := mn) hsv (by rw [← hv1]; simp [uI]) (by omega) (by decide)
      refine ⟨nb s2 tp unk, fun Q => ?_, ?_, ?_⟩
      · have gb := fun Q => m_X11_beginNew (d := d + 2) (Q := Q) (h := h) (q := q) (s := rfg (uI s 4 (nI 0)))
        have e5 : uI (nb (uI (rfg (uI s 4 (nI 0))) 42 (nI 0)) tp []) 42 (nI mn) = nb v1 tp [] := by rw [nb_uI (by decide), hv1]
        simp (disch := first | exact ae_isR_ref _ | exact ae_isR_null | exact ae_isR_rf _ | exact ae_cat_ref _ | exact ae_cat_int _ | exact ae_cat_null | exact ae_cat_rf _ | exact ae_nz0 | exact ae_nz1 | exact ae_fz0 | exact ae_fz1 | exact cI_na (by omega) | exact cI_ix (by omega) | exact cI_nn (by omega) | exact cI_nz (by omega) | exact cI_cp (by omega) | assumption | omega) only [s_X11_problem_0, s_X11_problem_1, s_X11_problem_2, s_X11_problem_3, e_X11_problem, i2, s_X11_problem_28, s_X11_problem_29, s_X11_problem_32, s_X11_problem_33, s_X11_problem_36, s_X11_problem_37, s_X11_problem_38, s_X11_problem_39, s_X11_problem_40, s_X11_problem_43, s_X11_problem_45, s_X11_problem_48, s_X11_problem_49, s_X11_problem_50, s_X11_problem_51, s_X11_problem_54, s_X11_problem_56, s_X11_problem_57, s_X11_problem_58, s_X11_problem_61, s_X11_problem_62, s_X11_problem_65, s_X11_problem_66, s_X11_problem_67, s_X11_problem_68 rl_0, s_X11_problem_71, s_X11_problem_72 rl_0, s_X11_problem_75, s_X11_problem_76, g1, s_X11_problem_102, s_X11_problem_103, s_X11_problem_104, s_X11_problem_105, s_X11_problem_106, s_X11_problem_109, s_X11_problem_110, g2, s_X11_problem_137, s_X11_problem_138, s_X11_problem_140, s_X11_problem_143, s_X11_problem_144, s_X11_problem_146 rl_0, s_X11_problem_149, s_X11_problem_150, s_X11_problem_151, s_X11_problem_152, rg_0, rg_1, rg_2, rg_3, rg_4, rg_5, rg_6, rg_7, rg_8, rg_9, rg_10, rg_11, rg_12, rg_13, rg_14, rg_15, rg_16, rg_17, rg_18, rg_19, rg_20, rg_21, rg_22, rg_23, rg_24, rg_25, rg_26, rg_27, rg_28, rg_29, rg_30, rg_31, rg_32, rg_33, rg_34, rg_35, rg_36, rg_37, rg_38, rg_39, rg_40, rg_41, rg_42, rg_43, rg_44, rg_45, rg_46, rg_47, rg_48, rg_49, rg_50, rg_51, rg_52, rp_0, rp_4, rp_5, rp_14, rp_15, rp_26, rp_29, rp_30, rp_31, rp_32, rp_33, rp_35, rp_36, rp_38, rp_39, rp_41, rp_42, rp_44, rp_45, rp_47, rp_51, rz_1, rs_1, rz_2, rs_2, rz_3, rs_3, rz_6, rzW_6, rsW_6, rz_7, rs_7, rz_8, rs_8, rz_9, rzW_9, rsW_9, rz_10, rs_10, rz_11, rs_11, rz_12, rs_12, rz_13, rs_13, rz_16, rs_16, rz_17, rs_17, rz_18, rs_18, rz_19, rs_19, rz_20, rs_20, rz_21, rzW_21, rsW_21, rz_22, rs_22, rz_23, rs_23, rz_24, rs_24, rz_25, rs_25, rz_27, rzW_27, rsW_27, rz_28, rs_28, rz_34, rs_34, rz_37, rs_37, rz_40, rs_40, rz_43, rs_43, rz_46, rs_46, rz_48, rs_48, rz_49, rs_49, rz_50, rs_50, rz_52, rs_52, uI_1, uI_2, uR_1, uR_21, uR_22, uW_1, uW_21, uW_22, uW_3, uJ_1, uJ_21, uJ_22, uJ_3, rh_2, va_rf, Bool.false_eq_true, ae_Ki, ae_Kb, ae_Kj, ae_Ka, ae_Si, ae_Sb, ae_Sj, ae_Sn, List.getElem?_cons_succ, List.getElem?_cons_zero, ↓reduceIte, if_true, if_false, nI_ofNat, true_or, or_true, false_or, or_false, true_and, and_true, false_and, and_false, or_self, and_self, not_true_eq_false, not_false_eq_true, eq_self, List.length_cons, List.length_nil, Nat.reduceAdd, Nat.reduceLT, Nat.reduceSub, List.set_cons_succ, List.set_cons_zero, Option.toList, List.nil_append, List.cons_append, cI_ltT, cI_ltF, cI_leT, cI_leF, cI_eqT, cI_eqF, cI_cl, cN_leT, cN_leF, cN_ltT, cN_ltF, cN_eqT, cN_eqF, cI_add, cI_sub, cI_m1a, cI_m1b, cI_m1c, cI_m1d, cI_m1e, cI_m1f, t1, hh1, hh2, m_X11_forget, gb, e5, g3, k1]
      · refine rSv_frm (nb_frm s2 tp unk) (by decide) (by decide) (by decide) ?_
        have : kpm ([], [], nI 0, nI 0, nI 0, nI 0) tp unk mn 10 = svb tp mn := by
          unfold kpm svb
          rw [if_neg (by rw [unk_len]; simp; omega)]
          rfl
        rw [← this]
        exact k2
      · exact frm_trans (frm_mono hf0 (by simp) (by simp) (by simp)) (frm_trans (frm_mono k3 (by simp) (by simp) (by simp)) (frm_mono (nb_frm s2 tp unk) (by simp) (by simp) (by simp)))
end REFK2
