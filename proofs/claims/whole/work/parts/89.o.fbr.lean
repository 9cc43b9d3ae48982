/-! NarrowSolver$TreeMaker: firstBranch, leastBehind, rulesWith -/
theorem stv_vat {ns : Nat} {A : Nat → Nat} {rl : mR} {p : List Nat} {S : Int64} (h99 : A 99 = 0) (hns : ns ≤ 24) (hg : rgo ns A rl) (h : wfp ns A rl p S) {k j r : Nat} (hj : hix p k = some j) (hr : r < rl.length) (hm : mem S r = true) : vat A rl p k r = stv A rl p j r := by
  rw [vat_wlk hj]
  exact (lft_mtc h99 hns hg h.1 hr (h.2.2.2.1 r hr hm)).2 j (hix_lt _ _ _ hj).1
theorem fbr_eq {ns : Nat} {A : Nat → Nat} {rl : mR} {p : List Nat} {S : Int64} (h99 : A 99 = 0) (hns : ns ≤ 24) (hg : rgo ns A rl) (h : wfp ns A rl p S) : fdF (fun j => !(!decide (p.getD j 0 = 99) || exF (fun r => mem S r && vvr A p (lft rl r) j) 40 0)) 120 0 = (bro A rl p S).map (jof p) := by
  have hpl := wfp_len hg h
  have hrl := hg.1
  have hsub := h.2.2.2.2.1
  have key : ∀ k j, hix p k = some j → ((!(!decide (p.getD j 0 = 99) || exF (fun r => mem S r && vvr A p (lft rl r) j) 40 0)) = alF (fun r => !mem S r || decide (vat A rl p k r < 100)) rl.length 0) := by
    intro k j hj
    obtain ⟨h1, h2⟩ := hix_lt _ _ _ hj
    rw [decide_eq_true h2, Bool.not_true, Bool.false_or]
    cases e : alF (fun r => !mem S r || decide (vat A rl p k r < 100)) rl.length 0 with
    | true =>
      have e2 := (alF_iff _ _ _).mp e
      have : exF (fun r => mem S r && vvr A p (lft rl r) j) 40 0 = false := by
        cases e3 : exF (fun r => mem S r && vvr A p (lft rl r) j) 40 0 with
        | false => rfl
        | true =>
          obtain ⟨r, r1, r2, r3⟩ := (exF_iff _ _ _).mp e3
          simp only [Bool.and_eq_true] at r3
          have hr := hsub r (by omega) r3.1
          have e4 := e2 r (by omega) (by omega)
          rw [r3.1, Bool.not_true, Bool.false_or, decide_eq_true_eq, stv_vat h99 hns hg h hj hr r3.1] at e4
          have e5 := r3.2
          unfold vvr at e5
          simp only [Bool.and_eq_true, decide_eq_true_eq] at e5
          exact absurd e5.2 (Nat.not_le.mpr e4)
      rw [this]; rfl
    | false =>
      have : exF (fun r => mem S r && vvr A p (lft rl r) j) 40 0 = true := by
        rw [exF_iff]
        apply Classical.byContradiction
        intro hn
        have : alF (fun r => !mem S r || decide (vat A rl p k r < 100)) rl.length 0 = true := by
          rw [alF_iff]
          intro r r1 r2
          cases em : mem S r with
          | false => rfl
          | true =>
            rw [Bool.not_true, Bool.false_or, decide_eq_true_eq, stv_vat h99 hns hg h hj (by omega) em]
            apply Nat.lt_of_not_le
            intro z
            refine hn ⟨r, by omega, by omega, ?_⟩
            simp only [em, Bool.true_and, vvr, decide_eq_true h2]
            exact decide_eq_true z
        rw [e] at this
        cases this
      rw [this]; rfl
  cases e : bro A rl p S with
  | none =>
    rw [Option.map_none, fdF_none]
    intro j j1 j2
    by_cases c : p.getD j 0 = 99
    · have hjl : j < p.length := by
        apply Nat.lt_of_not_le
        intro z
        rw [List.getD_eq_getElem?_getD, List.getElem?_eq_none z] at c
        cases c
      have hx := hix_all p j hjl c
      rw [key _ _ hx]
      have hk : hol (p.take j) < hol p := by
        apply Nat.lt_of_not_le
        intro z
        rw [(hix_none p _).mpr z] at hx
        cases hx
      exact (fdF_none _ _ _).mp e _ (Nat.zero_le _) (by omega)
    · rw [decide_eq_false c]; rfl
  | some k =>
    obtain ⟨h1, h2, h3, h4, h5⟩ := bro_at (ns := ns) e
    obtain ⟨b1, b2, b3, b4⟩ := (fdF_some _ _ _ _).mp e
    rw [Option.map_some, fdF_some]
    refine ⟨Nat.zero_le _, by omega, ?_, fun i i1 i2 => ?_⟩
    · rw [key _ _ h2]; exact b3
    · by_cases c : p.getD i 0 = 99
      · have hx := hix_all p i (by omega) c
        rw [key _ _ hx]
        refine b4 _ (Nat.zero_le _) ?_
        have h6 := hix_hol _ _ _ h2
        have h7 := hol_mono p i (jof p k) (by omega)
        apply Nat.lt_of_le_of_ne (by omega)
        intro z
        rw [z, h2] at hx
        cases hx
        omega
      · rw [decide_eq_false c]; rfl
section FBR
variable {d : Nat} {Q : Option Value → ah_H → Prop} {E : Nat → Prop} {G : ah_H} {x : Nat} {A : Nat → Nat} {ns : Nat} {ar fn : Nat → Int32} {p : List Nat} {rl : mR} {S : Int64}
theorem m_X10_isVariable_m1 {h : ah_H} : ae_wm d mX10_isVariable [.int (-1)] h Q = Q (some (.int (nI 0))) h := by
  simp (disch := first | exact ae_isR_ref _ | exact ae_isR_null | exact ae_isR_rf _ | exact ae_cat_ref _ | exact ae_cat_int _ | exact ae_cat_null | exact ae_cat_rf _ | exact ae_nz0 | exact ae_nz1 | exact ae_fz0 | exact ae_fz1 | exact cI_na (by omega) | exact cI_ix (by omega) | exact cI_nn (by omega) | exact cI_nz (by omega) | exact cI_cp (by omega) | assumption | omega) only [s_X10_isVariable_0, s_X10_isVariable_1, s_X10_isVariable_3, s_X10_isVariable_6, s_X10_isVariable_7, s_X10_isVariable_10, s_X10_isVariable_11, e_X10_isVariable, og_0, og_1, og_2, og_3, og_4, og_5, og_6, og_7, og_8, og_9, og_10, og_11, og_12, op_6, op_8, op_9, op_10, op_11, op_12, dg_0, dg_1, dg_2, dg_3, dp_1, dp_2, dp_3, ng_b, ng_d, mz_m, ms_m, ov_2, nset_d, nset_b, uI_1, uI_2, uR_1, uR_21, uR_22, va_rf, Bool.false_eq_true, ae_Ki, ae_Kb, ae_Kj, ae_Ka, ae_Si, ae_Sb, ae_Sj, ae_Sn, List.getElem?_cons_succ, List.getElem?_cons_zero, ↓reduceIte, if_true, if_false, nI_ofNat, true_or, or_true, false_or, or_false, true_and, and_true, false_and, and_false, or_self, and_self, not_true_eq_false, not_false_eq_true, eq_self, List.length_cons, List.length_nil, Nat.reduceAdd, Nat.reduceLT, Nat.reduceSub, List.set_cons_succ, List.set_cons_zero, Option.toList, List.nil_append, List.cons_append, cI_ltT, cI_ltF, cI_leT, cI_leF, cI_eqT, cI_eqF, cI_cl, cN_leT, cN_leF, cN_ltT, cN_ltF, cN_eqT, cN_eqF, cI_add, cI_sub, cI_m1a, cI_m1b, cI_m1c, cI_m1d, cI_m1e, cI_m1f]
theorem m_X9_fb1 (hk : mkr E G x ns A ar fn rl) (hp : pat G x (pcm p)) (hpe : ∀ i, i < p.length → p.getD i 0 < ns ∨ p.getD i 0 = 99) : ∀ (m i : Nat) (f : Nat → Int32), i + m = 120 → (∀ j, j < i → f j = if (!decide (p.getD j 0 = 99)) = true then nI 1 else nI 0) → ∃ f2, (∀ Q, ae_wp (d + 3) mX9_firstBranch 2 [some (.ref (x + 11)), some (.long S), none, some (.int (nI i))] [] (shs G x f) Q = ae_wp (d + 3) mX9_firstBranch 42 [some (.ref (x + 11)), some (.long S), none, some (.int (nI 120))] [] (shs G x f2) Q) ∧ shl (fun j => !decide (p.getD j 0 = 99)) f2 := by
  have hns := hk.2.1.1
  have hpl : p.length ≤ 120 := by
    obtain ⟨g, p1, p2, p3⟩ := hp
    rw [pcm_len] at p3
    exact p3
  intro m
  induction m with
  | zero =>
    intro i f hi hf
    have e : i = 120 := by omega
    subst e
    have ht := (shs_mkr hk f).2.2.2.1
    have o4 : ∀ K, ae_gw (shs G x f) (x + 11) 9 3 K = K (.ref (x + 14)) := fun K => by unfold ae_gw; rw [ht]; rfl
    refine ⟨f, fun Q => ?_, hf⟩
    simp (disch := first | exact ae_isR_ref _ | exact ae_isR_null | exact ae_isR_rf _ | exact ae_cat_ref _ | exact ae_cat_int _ | exact ae_cat_null | exact ae_cat_rf _ | exact ae_nz0 | exact ae_nz1 | exact ae_fz0 | exact ae_fz1 | exact cI_na (by omega) | exact cI_ix (by omega) | exact cI_nn (by omega) | exact cI_nz (by omega) | exact cI_cp (by omega) | assumption | omega) only [s_X9_firstBranch_2, s_X9_firstBranch_3, s_X9_firstBranch_4, s_X9_firstBranch_7, s_X9_firstBranch_8, og_0, og_1, og_2, og_3, og_4, og_5, og_6, og_7, og_8, og_9, og_10, og_11, og_12, op_6, op_8, op_9, op_10, op_11, op_12, dg_0, dg_1, dg_2, dg_3, dp_1, dp_2, dp_3, ng_b, ng_d, mz_m, ms_m, ov_2, nset_d, nset_b, uI_1, uI_2, uR_1, uR_21, uR_22, va_rf, Bool.false_eq_true, ae_Ki, ae_Kb, ae_Kj, ae_Ka, ae_Si, ae_Sb, ae_Sj, ae_Sn, List.getElem?_cons_succ, List.getElem?_cons_zero, ↓reduceIte, if_true, if_false, nI_ofNat, true_or, or_true, false_or, or_false, true_and, and_true, false_and, and_false, or_self, and_self, not_true_eq_false, not_false_eq_true, eq_self, List.length_cons, List.length_nil, Nat.reduceAdd, Nat.reduceLT, Nat.reduceSub, List.set_cons_succ, List.set_cons_zero, Option.toList, List.nil_append, List.cons_append, cI_ltT, cI_ltF, cI_leT, cI_leF, cI_eqT, cI_eqF, cI_cl, cN_leT, cN_leF, cN_ltT, cN_ltF, cN_eqT, cN_eqF, cI_add, cI_sub, cI_m1a, cI_m1b, cI_m1c, cI_m1d, cI_m1e, cI_m1f, o4, shs_z]
  | succ m ih =>
    intro i f hi hf
    obtain ⟨g, p1, p2, p3⟩ := shs_pat hp f
    have ht := (shs_mkr hk f).2.2.2.1
    have o2 : ∀ K, ae_gw (shs G x f) (x + 11) 9 2 K = K (.ref (x + 12)) := fun K => by unfold ae_gw; rw [ht]; rfl
    have o4 : ∀ K, ae_gw (shs G x f) (x + 11) 9 3 K = K (.ref (x + 14)) := fun K => by unfold ae_gw; rw [ht]; rfl
    have gA := fun Q => m_X1_at (d := d + 2) (Q := Q) (i := i) p1 (by omega) (by omega) (by omega)
    by_cases c : p.getD i 0 = 99
    · have hil : i < p.length := by
        apply Nat.lt_of_not_le
        intro z
        rw [List.getD_eq_getElem?_getD, List.getElem?_eq_none z] at c
        cases c
      rw [if_pos (by rw [pcm_len]; omega), p2 i (by rw [pcm_len]; omega), pcm_at hil, if_pos c] at gA
      have gV := fun Q => m_X10_isVariable (d := d + 2) (Q := Q) (h := shs G x f) (v := 100) (by omega)
      rw [if_pos (by decide)] at gV
      obtain ⟨f2, i1, i2⟩ := ih (i + 1) (upd f i (nI 0)) (by omega) (fun j hj => by
        by_cases e : j = i
        · subst e; rw [decide_eq_true c]; simp [upd]
        · simp only [upd, if_neg e]; exact hf j (by omega))
      refine ⟨f2, fun Q => ?_, i2⟩
      refine Eq.trans ?_ (s_X9_firstBranch_39.trans (i1 Q))
      simp (disch := first | exact ae_isR_ref _ | exact ae_isR_null | exact ae_isR_rf _ | exact ae_cat_ref _ | exact ae_cat_int _ | exact ae_cat_null | exact ae_cat_rf _ | exact ae_nz0 | exact ae_nz1 | exact ae_fz0 | exact ae_fz1 | exact cI_na (by omega) | exact cI_ix (by omega) | exact cI_nn (by omega) | exact cI_nz (by omega) | exact cI_cp (by omega) | assumption | omega) only [s_X9_firstBranch_2, s_X9_firstBranch_3, s_X9_firstBranch_4, s_X9_firstBranch_7, s_X9_firstBranch_8, s_X9_firstBranch_11, s_X9_firstBranch_12, s_X9_firstBranch_15, s_X9_firstBranch_16, s_X9_firstBranch_17, s_X9_firstBranch_20, s_X9_firstBranch_21 p1.1, s_X9_firstBranch_24, s_X9_firstBranch_27, s_X9_firstBranch_30, s_X9_firstBranch_31, s_X9_firstBranch_34, s_X9_firstBranch_35, s_X9_firstBranch_36, og_0, og_1, og_2, og_3, og_4, og_5, og_6, og_7, og_8, og_9, og_10, og_11, og_12, op_6, op_8, op_9, op_10, op_11, op_12, dg_0, dg_1, dg_2, dg_3, dp_1, dp_2, dp_3, ng_b, ng_d, mz_m, ms_m, ov_2, nset_d, nset_b, uI_1, uI_2, uR_1, uR_21, uR_22, va_rf, Bool.false_eq_true, ae_Ki, ae_Kb, ae_Kj, ae_Ka, ae_Si, ae_Sb, ae_Sj, ae_Sn, List.getElem?_cons_succ, List.getElem?_cons_zero, ↓reduceIte, if_true, if_false, nI_ofNat, true_or, or_true, false_or, or_false, true_and, and_true, false_and, and_false, or_self, and_self, not_true_eq_false, not_false_eq_true, eq_self, List.length_cons, List.length_nil, Nat.reduceAdd, Nat.reduceLT, Nat.reduceSub, List.set_cons_succ, List.set_cons_zero, Option.toList, List.nil_append, List.cons_append, cI_ltT, cI_ltF, cI_leT, cI_leF, cI_eqT, cI_eqF, cI_cl, cN_leT, cN_leF, cN_ltT, cN_ltF, cN_eqT, cN_eqF, cI_add, cI_sub, cI_m1a, cI_m1b, cI_m1c, cI_m1d, cI_m1e, cI_m1f, o2, o4, shs_z, shs_s, gA, gV, ae_vn0]
    · obtain ⟨f2, i1, i2⟩ := ih (i + 1) (upd f i (nI 1)) (by omega) (fun j hj => by
        by_cases e : j = i
        · subst e; rw [decide_eq_false c]; simp [upd]
        · simp only [upd, if_neg e]; exact hf j (by omega))
      refine ⟨f2, fun Q => ?_, i2⟩
      refine Eq.trans ?_ (s_X9_firstBranch_39.trans (i1 Q))
      by_cases hil : i < p.length
      · have hpi := hpe i hil
        rw [if_pos (by rw [pcm_len]; omega), p2 i (by rw [pcm_len]; omega), pcm_at hil, if_neg c] at gA
        have gV := fun Q => m_X10_isVariable (d := d + 2) (Q := Q) (h := shs G x f) (v := p.getD i 0) (by omega)
        rw [if_neg (by omega)] at gV
        simp (disch := first | exact ae_isR_ref _ | exact ae_isR_null | exact ae_isR_rf _ | exact ae_cat_ref _ | exact ae_cat_int _ | exact ae_cat_null | exact ae_cat_rf _ | exact ae_nz0 | exact ae_nz1 | exact ae_fz0 | exact ae_fz1 | exact cI_na (by omega) | exact cI_ix (by omega) | exact cI_nn (by omega) | exact cI_nz (by omega) | exact cI_cp (by omega) | assumption | omega) only [s_X9_firstBranch_2, s_X9_firstBranch_3, s_X9_firstBranch_4, s_X9_firstBranch_7, s_X9_firstBranch_8, s_X9_firstBranch_11, s_X9_firstBranch_12, s_X9_firstBranch_15, s_X9_firstBranch_16, s_X9_firstBranch_17, s_X9_firstBranch_20, s_X9_firstBranch_21 p1.1, s_X9_firstBranch_24, s_X9_firstBranch_27, s_X9_firstBranch_30, s_X9_firstBranch_31, s_X9_firstBranch_34, s_X9_firstBranch_35, s_X9_firstBranch_36, og_0, og_1, og_2, og_3, og_4, og_5, og_6, og_7, og_8, og_9, og_10, og_11, og_12, op_6, op_8, op_9, op_10, op_11, op_12, dg_0, dg_1, dg_2, dg_3, dp_1, dp_2, dp_3, ng_b, ng_d, mz_m, ms_m, ov_2, nset_d, nset_b, uI_1, uI_2, uR_1, uR_21, uR_22, va_rf, Bool.false_eq_true, ae_Ki, ae_Kb, ae_Kj, ae_Ka, ae_Si, ae_Sb, ae_Sj, ae_Sn, List.getElem?_cons_succ, List.getElem?_cons_zero, ↓reduceIte, if_true, if_false, nI_ofNat, true_or, or_true, false_or, or_false, true_and, and_true, false_and, and_false, or_self, and_self, not_true_eq_false, not_false_eq_true, eq_self, List.length_cons, List.length_nil, Nat.reduceAdd, Nat.reduceLT, Nat.reduceSub, List.set_cons_succ, List.set_cons_zero, Option.toList, List.nil_append, List.cons_append, cI_ltT, cI_ltF, cI_leT, cI_leF, cI_eqT, cI_eqF, cI_cl, cN_leT, cN_leF, cN_ltT, cN_ltF, cN_eqT, cN_eqF, cI_add, cI_sub, cI_m1a, cI_m1b, cI_m1c, cI_m1d, cI_m1e, cI_m1f, o2, o4, shs_z, shs_s, gA, gV, ae_vn1]
      · rw [if_neg (by rw [pcm_len]; omega)] at gA
        have gV := fun Q => m_X10_isVariable_m1 (d := d + 2) (Q := Q) (h := shs G x f)
        simp (disch := first | exact ae_isR_ref _ | exact ae_isR_null | exact ae_isR_rf _ | exact ae_cat_ref _ | exact ae_cat_int _ | exact ae_cat_null | exact ae_cat_rf _ | exact ae_nz0 | exact ae_nz1 | exact ae_fz0 | exact ae_fz1 | exact cI_na (by omega) | exact cI_ix (by omega) | exact cI_nn (by omega) | exact cI_nz (by omega) | exact cI_cp (by omega) | assumption | omega) only [s_X9_firstBranch_2, s_X9_firstBranch_3, s_X9_firstBranch_4, s_X9_firstBranch_7, s_X9_firstBranch_8, s_X9_firstBranch_11, s_X9_firstBranch_12, s_X9_firstBranch_15, s_X9_firstBranch_16, s_X9_firstBranch_17, s_X9_firstBranch_20, s_X9_firstBranch_21 p1.1, s_X9_firstBranch_24, s_X9_firstBranch_27, s_X9_firstBranch_30, s_X9_firstBranch_31, s_X9_firstBranch_34, s_X9_firstBranch_35, s_X9_firstBranch_36, og_0, og_1, og_2, og_3, og_4, og_5, og_6, og_7, og_8, og_9, og_10, og_11, og_12, op_6, op_8, op_9, op_10, op_11, op_12, dg_0, dg_1, dg_2, dg_3, dp_1, dp_2, dp_3, ng_b, ng_d, mz_m, ms_m, ov_2, nset_d, nset_b, uI_1, uI_2, uR_1, uR_21, uR_22, va_rf, Bool.false_eq_true, ae_Ki, ae_Kb, ae_Kj, ae_Ka, ae_Si, ae_Sb, ae_Sj, ae_Sn, List.getElem?_cons_succ, List.getElem?_cons_zero, ↓reduceIte, if_true, if_false, nI_ofNat, true_or, or_true, false_or, or_false, true_and, and_true, false_and, and_false, or_self, and_self, not_true_eq_false, not_false_eq_true, eq_self, List.length_cons, List.length_nil, Nat.reduceAdd, Nat.reduceLT, Nat.reduceSub, List.set_cons_succ, List.set_cons_zero, Option.toList, List.nil_append, List.cons_append, cI_ltT, cI_ltF, cI_leT, cI_leF, cI_eqT, cI_eqF, cI_cl, cN_leT, cN_leF, cN_ltT, cN_ltF, cN_eqT, cN_eqF, cI_add, cI_sub, cI_m1a, cI_m1b, cI_m1c, cI_m1d, cI_m1e, cI_m1f, o2, o4, shs_z, shs_s, gA, gV, ae_vn1]
theorem m_X9_fb2 (hk : mkr E G x ns A ar fn rl) (hp : pat G x (pcm p)) (hw : wfp ns A rl p S) : ∀ (m r : Nat) (f : Nat → Int32) (sh : Nat → Bool), r + m = 40 → shl sh f → ∃ f2, (∀ Q, ae_wp (d + 3) mX9_firstBranch 44 [some (.ref (x + 11)), some (.long S), none, some (.int (nI r))] [] (shs G x f) Q = ae_wp (d + 3) mX9_firstBranch 91 [some (.ref (x + 11)), some (.long S), none, some (.int (nI 40))] [] (shs G x f2) Q) ∧ shl (fun j => sh j || exF (fun r => mem S r && vvr A p (lft rl r) j) m r) f2 := by
  have hns := hk.2.1.1
  have h99 : A 99 = 0 := hk.2.1.2.2 99 (by omega)
  have hg := hk.2.2.2.2.1
  obtain ⟨lf, h7, h8⟩ := hk.2.2.2.2.2
  intro m
  induction m with
  | zero =>
    intro r f sh hr hf
    have e : r = 40 := by omega
    subst e
    have ht := (shs_mkr hk f).2.2.2.1
    have o1 : ∀ K, ae_gw (shs G x f) (x + 11) 9 1 K = K (.ref (x + 7)) := fun K => by unfold ae_gw; rw [ht]; rfl
    have o7 : ∀ K, ae_zw (shs G x f) (x + 7) K = K 3 (40, .inr (.inr (.inr (.inr lf)))) := fun K => zw_of (by rw [shs_ne (by omega)]; exact h7)
    refine ⟨f, fun Q => ?_, shl_ext (fun j _ => ?_) hf⟩
    · simp (disch := first | exact ae_isR_ref _ | exact ae_isR_null | exact ae_isR_rf _ | exact ae_cat_ref _ | exact ae_cat_int _ | exact ae_cat_null | exact ae_cat_rf _ | exact ae_nz0 | exact ae_nz1 | exact ae_fz0 | exact ae_fz1 | exact cI_na (by omega) | exact cI_ix (by omega) | exact cI_nn (by omega) | exact cI_nz (by omega) | exact cI_cp (by omega) | assumption | omega) only [s_X9_firstBranch_44, s_X9_firstBranch_45, s_X9_firstBranch_46, s_X9_firstBranch_49, s_X9_firstBranch_50, og_0, og_1, og_2, og_3, og_4, og_5, og_6, og_7, og_8, og_9, og_10, og_11, og_12, op_6, op_8, op_9, op_10, op_11, op_12, dg_0, dg_1, dg_2, dg_3, dp_1, dp_2, dp_3, ng_b, ng_d, mz_m, ms_m, ov_2, nset_d, nset_b, uI_1, uI_2, uR_1, uR_21, uR_22, va_rf, Bool.false_eq_true, ae_Ki, ae_Kb, ae_Kj, ae_Ka, ae_Si, ae_Sb, ae_Sj, ae_Sn, List.getElem?_cons_succ, List.getElem?_cons_zero, ↓reduceIte, if_true, if_false, nI_ofNat, true_or, or_true, false_or, or_false, true_and, and_true, false_and, and_false, or_self, and_self, not_true_eq_false, not_false_eq_true, eq_self, List.length_cons, List.length_nil, Nat.reduceAdd, Nat.reduceLT, Nat.reduceSub, List.set_cons_succ, List.set_cons_zero, Option.toList, List.nil_append, List.cons_append, cI_ltT, cI_ltF, cI_leT, cI_leF, cI_eqT, cI_eqF, cI_cl, cN_leT, cN_leF, cN_ltT, cN_ltF, cN_eqT, cN_eqF, cI_add, cI_sub, cI_m1a, cI_m1b, cI_m1c, cI_m1d, cI_m1e, cI_m1f, o1, o7]
    · rw [exF, Bool.or_false]
  | succ m ih =>
    intro r f sh hr hf
    have ht := (shs_mkr hk f).2.2.2.1
    have o1 : ∀ K, ae_gw (shs G x f) (x + 11) 9 1 K = K (.ref (x + 7)) := fun K => by unfold ae_gw; rw [ht]; rfl
    have o7 : ∀ K, ae_zw (shs G x f) (x + 7) K = K 3 (40, .inr (.inr (.inr (.inr lf)))) := fun K => zw_of (by rw [shs_ne (by omega)]; exact h7)
    by_cases c : mem S r = true
    · have hrl := hw.2.2.2.2.1 r (by omega) c
      obtain ⟨a, a1, a2⟩ := h8 r hrl
      have hEf : ∀ f a, E a → (shs G x f).1 a = G.1 a := fun f a ha => shs_ne (fun e => hk.1.2.2.2.2.2.2.2 (e ▸ ha))
      obtain ⟨l1, l2, l3, l4, l5⟩ := lft_rn hns hg hrl
      have hmt := (lft_mtc h99 hns hg hw.1 hrl (hw.2.2.2.1 r hrl c)).1
      have a3 := a2
      obtain ⟨e0, e1, e2, e3, e4, q1, ⟨gl, q2, q3⟩, q4⟩ := a3
      have hL : ∀ f, nmb (shs G x f) (a + 1) (lft rl r).length gl (lft rl r).length := fun f => ⟨by rw [hEf f _ e1]; exact q2.1, by rw [hEf f _ e2]; exact q2.2⟩
      have oL : ∀ K, ae_gw (shs G x f) a 4 0 K = K (.ref (a + 1)) := fun K => by unfold ae_gw; rw [hEf f _ e0, q1]; rfl
      obtain ⟨f1, j1, j2⟩ := m_X9_shutVariables (d := d) hk hp hw.2.1 hL q3 (by omega) l5 hmt hf
      obtain ⟨f2, i1, i2⟩ := ih (r + 1) f1 _ (by omega) j2
      refine ⟨f2, fun Q => ?_, shl_ext (fun j _ => ?_) i2⟩
      · refine Eq.trans ?_ (s_X9_firstBranch_88.trans (i1 Q))
        simp (disch := first | exact ae_isR_ref _ | exact ae_isR_null | exact ae_isR_rf _ | exact ae_cat_ref _ | exact ae_cat_int _ | exact ae_cat_null | exact ae_cat_rf _ | exact ae_nz0 | exact ae_nz1 | exact ae_fz0 | exact ae_fz1 | exact cI_na (by omega) | exact cI_ix (by omega) | exact cI_nn (by omega) | exact cI_nz (by omega) | exact cI_cp (by omega) | assumption | omega) only [s_X9_firstBranch_44, s_X9_firstBranch_45, s_X9_firstBranch_46, s_X9_firstBranch_49, s_X9_firstBranch_50, s_X9_firstBranch_53, s_X9_firstBranch_54, s_X9_firstBranch_55, s_X9_firstBranch_56, s_X9_firstBranch_57, s_X9_firstBranch_58, s_X9_firstBranch_59, s_X9_firstBranch_60, s_X9_firstBranch_63, s_X9_firstBranch_64, s_X9_firstBranch_67, s_X9_firstBranch_68, s_X9_firstBranch_69_N, s_X9_firstBranch_69, s_X9_firstBranch_72, s_X9_firstBranch_73, s_X9_firstBranch_74, s_X9_firstBranch_77, s_X9_firstBranch_78, s_X9_firstBranch_79, s_X9_firstBranch_82 ht, s_X9_firstBranch_85, og_0, og_1, og_2, og_3, og_4, og_5, og_6, og_7, og_8, og_9, og_10, og_11, og_12, op_6, op_8, op_9, op_10, op_11, op_12, dg_0, dg_1, dg_2, dg_3, dp_1, dp_2, dp_3, ng_b, ng_d, mz_m, ms_m, ov_2, nset_d, nset_b, uI_1, uI_2, uR_1, uR_21, uR_22, va_rf, Bool.false_eq_true, ae_Ki, ae_Kb, ae_Kj, ae_Ka, ae_Si, ae_Sb, ae_Sj, ae_Sn, List.getElem?_cons_succ, List.getElem?_cons_zero, ↓reduceIte, if_true, if_false, nI_ofNat, true_or, or_true, false_or, or_false, true_and, and_true, false_and, and_false, or_self, and_self, not_true_eq_false, not_false_eq_true, eq_self, List.length_cons, List.length_nil, Nat.reduceAdd, Nat.reduceLT, Nat.reduceSub, List.set_cons_succ, List.set_cons_zero, Option.toList, List.nil_append, List.cons_append, cI_ltT, cI_ltF, cI_leT, cI_leF, cI_eqT, cI_eqF, cI_cl, cN_leT, cN_leF, cN_ltT, cN_ltF, cN_eqT, cN_eqF, cI_add, cI_sub, cI_m1a, cI_m1b, cI_m1c, cI_m1d, cI_m1e, cI_m1f, o1, o7, mem_T c, cL_eq, i64_10, a1, oL, j1]
      · rw [exF, c, Bool.true_and, Bool.or_assoc]
    · have c' : mem S r = false := by simpa using c
      obtain ⟨f2, i1, i2⟩ := ih (r + 1) f sh (by omega) hf
      refine ⟨f2, fun Q => ?_, shl_ext (fun j _ => ?_) i2⟩
      · refine Eq.trans ?_ (s_X9_firstBranch_88.trans (i1 Q))
        simp (disch := first | exact ae_isR_ref _ | exact ae_isR_null | exact ae_isR_rf _ | exact ae_cat_ref _ | exact ae_cat_int _ | exact ae_cat_null | exact ae_cat_rf _ | exact ae_nz0 | exact ae_nz1 | exact ae_fz0 | exact ae_fz1 | exact cI_na (by omega) | exact cI_ix (by omega) | exact cI_nn (by omega) | exact cI_nz (by omega) | exact cI_cp (by omega) | assumption | omega) only [s_X9_firstBranch_44, s_X9_firstBranch_45, s_X9_firstBranch_46, s_X9_firstBranch_49, s_X9_firstBranch_50, s_X9_firstBranch_53, s_X9_firstBranch_54, s_X9_firstBranch_55, s_X9_firstBranch_56, s_X9_firstBranch_57, s_X9_firstBranch_58, s_X9_firstBranch_59, s_X9_firstBranch_60, s_X9_firstBranch_63, s_X9_firstBranch_64, s_X9_firstBranch_67, s_X9_firstBranch_68, s_X9_firstBranch_69_N, s_X9_firstBranch_69, s_X9_firstBranch_72, s_X9_firstBranch_73, s_X9_firstBranch_74, s_X9_firstBranch_77, s_X9_firstBranch_78, s_X9_firstBranch_79, s_X9_firstBranch_82 ht, s_X9_firstBranch_85, og_0, og_1, og_2, og_3, og_4, og_5, og_6, og_7, og_8, og_9, og_10, og_11, og_12, op_6, op_8, op_9, op_10, op_11, op_12, dg_0, dg_1, dg_2, dg_3, dp_1, dp_2, dp_3, ng_b, ng_d, mz_m, ms_m, ov_2, nset_d, nset_b, uI_1, uI_2, uR_1, uR_21, uR_22, va_rf, Bool.false_eq_true, ae_Ki, ae_Kb, ae_Kj, ae_Ka, ae_Si, ae_Sb, ae_Sj, ae_Sn, List.getElem?_cons_succ, List.getElem?_cons_zero, ↓reduceIte, if_true, if_false, nI_ofNat, true_or, or_true, false_or, or_false, true_and, and_true, false_and, and_false, or_self, and_self, not_true_eq_false, not_false_eq_true, eq_self, List.length_cons, List.length_nil, Nat.reduceAdd, Nat.reduceLT, Nat.reduceSub, List.set_cons_succ, List.set_cons_zero, Option.toList, List.nil_append, List.cons_append, cI_ltT, cI_ltF, cI_leT, cI_leF, cI_eqT, cI_eqF, cI_cl, cN_leT, cN_leF, cN_ltT, cN_ltF, cN_eqT, cN_eqF, cI_add, cI_sub, cI_m1a, cI_m1b, cI_m1c, cI_m1d, cI_m1e, cI_m1f, o1, o7, mem_F c', cL_eq, i64_10]
      · rw [exF, c', Bool.false_and, Bool.false_or]
theorem m_X9_fb3 (hk : mkr E G x ns A ar fn rl) {f : Nat → Int32} {sh : Nat → Bool} (hf : shl sh f) : ∀ (m i : Nat), i + m = 120 → ae_wp (d + 3) mX9_firstBranch 93 [some (.ref (x + 11)), some (.long S), none, some (.int (nI i))] [] (shs G x f) Q = Q (some (.int (locv (fdF (fun j => !sh j) m i)))) (shs G x f) := by
  have ht := (shs_mkr hk f).2.2.2.1
  have o4 : ∀ K, ae_gw (shs G x f) (x + 11) 9 3 K = K (.ref (x + 14)) := fun K => by unfold ae_gw; rw [ht]; rfl
  intro m
  induction m with
  | zero =>
    intro i hi
    have e : i = 120 := by omega
    subst e
    simp (disch := first | exact ae_isR_ref _ | exact ae_isR_null | exact ae_isR_rf _ | exact ae_cat_ref _ | exact ae_cat_int _ | exact ae_cat_null | exact ae_cat_rf _ | exact ae_nz0 | exact ae_nz1 | exact ae_fz0 | exact ae_fz1 | exact cI_na (by omega) | exact cI_ix (by omega) | exact cI_nn (by omega) | exact cI_nz (by omega) | exact cI_cp (by omega) | assumption | omega) only [s_X9_firstBranch_93, s_X9_firstBranch_94, s_X9_firstBranch_95, s_X9_firstBranch_98, s_X9_firstBranch_99, s_X9_firstBranch_119, s_X9_firstBranch_120, og_0, og_1, og_2, og_3, og_4, og_5, og_6, og_7, og_8, og_9, og_10, og_11, og_12, op_6, op_8, op_9, op_10, op_11, op_12, dg_0, dg_1, dg_2, dg_3, dp_1, dp_2, dp_3, ng_b, ng_d, mz_m, ms_m, ov_2, nset_d, nset_b, uI_1, uI_2, uR_1, uR_21, uR_22, va_rf, Bool.false_eq_true, ae_Ki, ae_Kb, ae_Kj, ae_Ka, ae_Si, ae_Sb, ae_Sj, ae_Sn, List.getElem?_cons_succ, List.getElem?_cons_zero, ↓reduceIte, if_true, if_false, nI_ofNat, true_or, or_true, false_or, or_false, true_and, and_true, false_and, and_false, or_self, and_self, not_true_eq_false, not_false_eq_true, eq_self, List.length_cons, List.length_nil, Nat.reduceAdd, Nat.reduceLT, Nat.reduceSub, List.set_cons_succ, List.set_cons_zero, Option.toList, List.nil_append, List.cons_append, cI_ltT, cI_ltF, cI_leT, cI_leF, cI_eqT, cI_eqF, cI_cl, cN_leT, cN_leF, cN_ltT, cN_ltF, cN_eqT, cN_eqF, cI_add, cI_sub, cI_m1a, cI_m1b, cI_m1c, cI_m1d, cI_m1e, cI_m1f, o4, shs_z, fdF, locv]
  | succ m ih =>
    intro i hi
    have e := hf i (by omega)
    by_cases c : sh i = true
    · rw [if_pos c] at e
      rw [fdF, if_neg (by rw [c]; decide)]
      refine Eq.trans ?_ (s_X9_firstBranch_116.trans (ih (i + 1) (by omega)))
      simp (disch := first | exact ae_isR_ref _ | exact ae_isR_null | exact ae_isR_rf _ | exact ae_cat_ref _ | exact ae_cat_int _ | exact ae_cat_null | exact ae_cat_rf _ | exact ae_nz0 | exact ae_nz1 | exact ae_fz0 | exact ae_fz1 | exact cI_na (by omega) | exact cI_ix (by omega) | exact cI_nn (by omega) | exact cI_nz (by omega) | exact cI_cp (by omega) | assumption | omega) only [s_X9_firstBranch_93, s_X9_firstBranch_94, s_X9_firstBranch_95, s_X9_firstBranch_98, s_X9_firstBranch_99, s_X9_firstBranch_102, s_X9_firstBranch_103, s_X9_firstBranch_106, s_X9_firstBranch_107, s_X9_firstBranch_108, s_X9_firstBranch_111, s_X9_firstBranch_112, s_X9_firstBranch_113, og_0, og_1, og_2, og_3, og_4, og_5, og_6, og_7, og_8, og_9, og_10, og_11, og_12, op_6, op_8, op_9, op_10, op_11, op_12, dg_0, dg_1, dg_2, dg_3, dp_1, dp_2, dp_3, ng_b, ng_d, mz_m, ms_m, ov_2, nset_d, nset_b, uI_1, uI_2, uR_1, uR_21, uR_22, va_rf, Bool.false_eq_true, ae_Ki, ae_Kb, ae_Kj, ae_Ka, ae_Si, ae_Sb, ae_Sj, ae_Sn, List.getElem?_cons_succ, List.getElem?_cons_zero, ↓reduceIte, if_true, if_false, nI_ofNat, true_or, or_true, false_or, or_false, true_and, and_true, false_and, and_false, or_self, and_self, not_true_eq_false, not_false_eq_true, eq_self, List.length_cons, List.length_nil, Nat.reduceAdd, Nat.reduceLT, Nat.reduceSub, List.set_cons_succ, List.set_cons_zero, Option.toList, List.nil_append, List.cons_append, cI_ltT, cI_ltF, cI_leT, cI_leF, cI_eqT, cI_eqF, cI_cl, cN_leT, cN_leF, cN_ltT, cN_ltF, cN_eqT, cN_eqF, cI_add, cI_sub, cI_m1a, cI_m1b, cI_m1c, cI_m1d, cI_m1e, cI_m1f, o4, shs_z, e]
    · rw [if_neg c] at e
      rw [fdF, if_pos (by simp at c; rw [c]; rfl)]
      simp (disch := first | exact ae_isR_ref _ | exact ae_isR_null | exact ae_isR_rf _ | exact ae_cat_ref _ | exact ae_cat_int _ | exact ae_cat_null | exact ae_cat_rf _ | exact ae_nz0 | exact ae_nz1 | exact ae_fz0 | exact ae_fz1 | exact cI_na (by omega) | exact cI_ix (by omega) | exact cI_nn (by omega) | exact cI_nz (by omega) | exact cI_cp (by omega) | assumption | omega) only [s_X9_firstBranch_93, s_X9_firstBranch_94, s_X9_firstBranch_95, s_X9_firstBranch_98, s_X9_firstBranch_99, s_X9_firstBranch_102, s_X9_firstBranch_103, s_X9_firstBranch_106, s_X9_firstBranch_107, s_X9_firstBranch_108, s_X9_firstBranch_111, s_X9_firstBranch_112, og_0, og_1, og_2, og_3, og_4, og_5, og_6, og_7, og_8, og_9, og_10, og_11, og_12, op_6, op_8, op_9, op_10, op_11, op_12, dg_0, dg_1, dg_2, dg_3, dp_1, dp_2, dp_3, ng_b, ng_d, mz_m, ms_m, ov_2, nset_d, nset_b, uI_1, uI_2, uR_1, uR_21, uR_22, va_rf, Bool.false_eq_true, ae_Ki, ae_Kb, ae_Kj, ae_Ka, ae_Si, ae_Sb, ae_Sj, ae_Sn, List.getElem?_cons_succ, List.getElem?_cons_zero, ↓reduceIte, if_true, if_false, nI_ofNat, true_or, or_true, false_or, or_false, true_and, and_true, false_and, and_false, or_self, and_self, not_true_eq_false, not_false_eq_true, eq_self, List.length_cons, List.length_nil, Nat.reduceAdd, Nat.reduceLT, Nat.reduceSub, List.set_cons_succ, List.set_cons_zero, Option.toList, List.nil_append, List.cons_append, cI_ltT, cI_ltF, cI_leT, cI_leF, cI_eqT, cI_eqF, cI_cl, cN_leT, cN_leF, cN_ltT, cN_ltF, cN_eqT, cN_eqF, cI_add, cI_sub, cI_m1a, cI_m1b, cI_m1c, cI_m1d, cI_m1e, cI_m1f, o4, shs_z, e, locv]
theorem m_X9_firstBranch (hk : mkr E G x ns A ar fn rl) (hp : pat G x (pcm p)) (hw : wfp ns A rl p S) {f0 : Nat → Int32} (h0 : G.1 (x + 14) = some (.inl (1, 120, .inl f0))) : ∃ f2, ∀ Q, ae_wm (d + 3) mX9_firstBranch [.ref (x + 11), .long S] G Q = Q (some (.int (locv ((bro A rl p S).map (jof p))))) (shs G x f2) := by
  have hns := hk.2.1.1
  have h99 : A 99 = 0 := hk.2.1.2.2 99 (by omega)
  have e0 : shs G x f0 = G := hs_same h0
  obtain ⟨f1, a1, a2⟩ := m_X9_fb1 (d := d) (S := S) hk hp hw.2.1 120 0 f0 (by omega) (fun j hj => by omega)
  obtain ⟨f2, b1, b2⟩ := m_X9_fb2 (d := d) hk hp hw 40 0 f1 _ (by omega) a2
  have c1 := fun Q => m_X9_fb3 (d := d) (Q := Q) (S := S) hk b2 120 0 (by omega)
  simp only [fbr_eq h99 hns hk.2.2.2.2.1 hw] at c1
  rw [e0] at a1
  refine ⟨f2, fun Q => ?_⟩
  have b1 := b1 Q
  have c1 := c1 Q
  simp (disch := first | exact ae_isR_ref _ | exact ae_isR_null | exact ae_isR_rf _ | exact ae_cat_ref _ | exact ae_cat_int _ | exact ae_cat_null | exact ae_cat_rf _ | exact ae_nz0 | exact ae_nz1 | exact ae_fz0 | exact ae_fz1 | exact cI_na (by omega) | exact cI_ix (by omega) | exact cI_nn (by omega) | exact cI_nz (by omega) | exact cI_cp (by omega) | assumption | omega) only [s_X9_firstBranch_0, s_X9_firstBranch_1, e_X9_firstBranch, a1, s_X9_firstBranch_42, s_X9_firstBranch_43, b1, s_X9_firstBranch_91, s_X9_firstBranch_92, c1]
end FBR
