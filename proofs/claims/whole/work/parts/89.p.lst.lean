/-! NarrowSolver$TreeMaker: leastBehind, rulesWith; the children in their order -/
def flt (P : Nat → Bool) : Nat → Nat → List Nat
  | 0, _ => []
  | m + 1, k => if P k = true then k :: flt P m (k + 1) else flt P m (k + 1)
theorem flt_filter (P : Nat → Bool) : ∀ m k, (List.range' k m).filter P = flt P m k := by
  intro m
  induction m with
  | zero => intro k; rfl
  | succ m ih =>
    intro k
    rw [List.range'_succ, List.filter_cons, ih, flt]
theorem flt_fd (P : Nat → Bool) : ∀ m k, match fdF P m k with
    | none => flt P m k = []
    | some c => flt P m k = c :: flt P (k + m - (c + 1)) (c + 1) := by
  intro m
  induction m with
  | zero => intro k; exact rfl
  | succ m ih =>
    intro k
    rw [fdF, flt]
    by_cases c : P k = true
    · rw [if_pos c, if_pos c]
      show k :: flt P m (k + 1) = k :: flt P (k + (m + 1) - (k + 1)) (k + 1)
      rw [show k + (m + 1) - (k + 1) = m by omega]
    · rw [if_neg c, if_neg c]
      have := ih (k + 1)
      rw [show k + (m + 1) = k + 1 + m by omega]
      exact this
/-- the children from constructor b on -/
def chb (A : Nat → Nat) (rl : mR) (ns : Nat) (p : List Nat) (k : Nat) (S : Int64) (b : Nat) : List Nat := flt (fun c => decide (wia A rl p k S c ≠ 0)) (ns - b) b
def nxc (A : Nat → Nat) (rl : mR) (ns : Nat) (p : List Nat) (k : Nat) (S : Int64) (b : Nat) : Option Nat := fdF (fun c => decide (wia A rl p k S c ≠ 0)) (ns - b) b
theorem chs_chb {A : Nat → Nat} {rl : mR} {ns : Nat} {p : List Nat} {k : Nat} {S : Int64} : chs A rl ns p k S = chb A rl ns p k S 0 := by
  unfold chs chb
  rw [List.range_eq_range', flt_filter]
  rfl
theorem chb_none {A : Nat → Nat} {rl : mR} {ns : Nat} {p : List Nat} {k : Nat} {S : Int64} {b : Nat} (h : nxc A rl ns p k S b = none) : chb A rl ns p k S b = [] := by
  have := flt_fd (fun c => decide (wia A rl p k S c ≠ 0)) (ns - b) b
  unfold nxc at h
  rw [h] at this
  exact this
theorem chb_some {A : Nat → Nat} {rl : mR} {ns : Nat} {p : List Nat} {k : Nat} {S : Int64} {b c : Nat} (h : nxc A rl ns p k S b = some c) : chb A rl ns p k S b = c :: chb A rl ns p k S (c + 1) ∧ b ≤ c ∧ c < ns ∧ wia A rl p k S c ≠ 0 := by
  have := flt_fd (fun c => decide (wia A rl p k S c ≠ 0)) (ns - b) b
  unfold nxc at h
  rw [h] at this
  obtain ⟨h1, h2, h3, h4⟩ := (fdF_some _ _ _ _).mp h
  have e : b + (ns - b) - (c + 1) = ns - (c + 1) := by omega
  dsimp only at this
  rw [e] at this
  exact ⟨this, h1, by omega, of_decide_eq_true h3⟩
theorem wia_iff {ns : Nat} {A : Nat → Nat} {rl : mR} {p : List Nat} {S : Int64} (h99 : A 99 = 0) (hns : ns ≤ 24) (hg : rgo ns A rl) (h : wfp ns A rl p S) {k : Nat} (hb : bro A rl p S = some k) (c : Nat) : wia A rl p k S c ≠ 0 ↔ ∃ r, r < 40 ∧ mem S r = true ∧ stv A rl p (jof p k) r = c := by
  obtain ⟨h1, h2, h3, h4, h5⟩ := bro_at (ns := ns) hb
  have hl := hg.1
  constructor
  · intro z
    obtain ⟨r, r1, r2⟩ := nz_of z
    rw [mem_wia hl r1] at r2
    simp only [Bool.and_eq_true, decide_eq_true_eq] at r2
    exact ⟨r, by omega, r2.2.1, by rw [← stv_vat h99 hns hg h h2 r2.1 r2.2.1]; exact r2.2.2⟩
  · rintro ⟨r, r1, r2, r3⟩
    have hr := h.2.2.2.2.1 r (by omega) r2
    refine nz_to (r := r) (by omega) ?_
    rw [mem_wia hl (by omega), decide_eq_true hr, r2, stv_vat h99 hns hg h h2 hr r2, r3, decide_eq_true rfl]
    rfl
def lbI (S : Int64) (v : Nat → Nat) (b r : Nat) (o : Option Nat) : Prop := match o with
  | none => ∀ r', r' < r → mem S r' = true → v r' < b
  | some c => (∃ r', r' < r ∧ mem S r' = true ∧ v r' = c) ∧ b ≤ c ∧ ∀ r', r' < r → mem S r' = true → v r' < b ∨ c ≤ v r'
theorem lbI_nxc {ns : Nat} {A : Nat → Nat} {rl : mR} {p : List Nat} {S : Int64} (h99 : A 99 = 0) (hns : ns ≤ 24) (hg : rgo ns A rl) (h : wfp ns A rl p S) {k : Nat} (hb : bro A rl p S = some k) {b : Nat} {o : Option Nat} (ho : lbI S (stv A rl p (jof p k)) b 40 o) : o = nxc A rl ns p k S b := by
  have hw := wia_iff h99 hns hg h hb
  obtain ⟨h1, h2, h3, h4, h5⟩ := bro_at (ns := ns) hb
  symm
  unfold nxc
  cases o with
  | none =>
    rw [fdF_none]
    intro j j1 j2
    apply decide_eq_false
    rw [hw]
    rintro ⟨r, r1, r2, r3⟩
    have := ho r r1 r2
    omega
  | some c =>
    obtain ⟨⟨r, r1, r2, r3⟩, o2, o3⟩ := ho
    have hr := h.2.2.2.2.1 r (by omega) r2
    have hv := vat_ns hg h hb hr r2
    rw [stv_vat h99 hns hg h h2 hr r2, r3] at hv
    rw [fdF_some]
    refine ⟨o2, by omega, decide_eq_true ((hw c).mpr ⟨r, r1, r2, r3⟩), fun j j1 j2 => ?_⟩
    apply decide_eq_false
    rw [hw]
    rintro ⟨r', q1, q2, q3⟩
    have := o3 r' q1 q2
    omega
theorem dcr_leT {v b : Nat} (h : v < b) (hb : b < 2147483648) : (nI v ≤ dcr b) = True := by
  cases b with
  | zero => omega
  | succ b => rw [dcr_s]; exact cI_leT (by omega)
theorem dcr_leF {v b : Nat} (h : b ≤ v) (hv : v < 2147483648) : (nI v ≤ dcr b) = False := by
  cases b with
  | zero => rw [dcr_z]; exact cI_m1d v hv
  | succ b => rw [dcr_s]; exact cI_leF (by omega)
section LBH
variable {d : Nat} {Q : Option Value → ah_H → Prop} {E : Nat → Prop} {G : ah_H} {x : Nat} {A : Nat → Nat} {ns : Nat} {ar fn : Nat → Int32} {p : List Nat} {rl : mR} {S : Int64}
theorem mk_stands (hk : mkr E G x ns A ar fn rl) (hp : pat G x (pcm p)) (hw : wfp ns A rl p S) {j r : Nat} (hj : j < p.length) (c : mem S r = true) (hr64 : r < 64) : ∃ lf a, G.1 (x + 7) = some (.inl (3, 40, .inr (.inr (.inr (.inr lf))))) ∧ lf r = some a ∧ (∀ K, ae_gw G a 4 0 K = K (.ref (a + 1))) ∧ (∀ Q, ae_wm (d + 2) mX9_standsIn [.ref (x + 11), .ref (a + 1), .int (nI j)] G Q = Q (some (.int (nI (stv A rl p j r)))) G) ∧ stv A rl p j r < 256 := by
  have hns := hk.2.1.1
  have h99 : A 99 = 0 := hk.2.1.2.2 99 (by omega)
  have hg := hk.2.2.2.2.1
  obtain ⟨lf, h7, h8⟩ := hk.2.2.2.2.2
  have hrl := hw.2.2.2.2.1 r hr64 c
  obtain ⟨a, a1, a2⟩ := h8 r hrl
  obtain ⟨l1, l2, l3, l4, l5⟩ := lft_rn hns hg hrl
  have hmt := (lft_mtc h99 hns hg hw.1 hrl (hw.2.2.2.1 r hrl c)).1
  obtain ⟨e0, e1, e2, e3, e4, q1, ⟨gl, q2, q3⟩, q4⟩ := a2
  exact ⟨lf, a, h7, a1, fun K => by unfold ae_gw; rw [q1]; rfl, fun Q => m_X9_standsIn (d := d) (Q := Q) hk.2.1 hk.2.2.1 hk.2.2.2.1 hp hw.2.1 q2 q3 (by omega) l5 hj hmt, l5 _ (mtc_at hmt hj).1⟩
theorem m_X9_lb_loop (hk : mkr E G x ns A ar fn rl) (hp : pat G x (pcm p)) (hw : wfp ns A rl p S) {j b q : Nat} (hj : j < p.length) (hb : b < 1000) (hS : nfl G q 7 = some (.long S)) (hJ : nfl G q 8 = some (.int (nI j))) : ∀ (m r : Nat) (o : Option Nat) (l5 : Option Value), r + m = 40 → (∀ c, o = some c → c < 256) → lbI S (stv A rl p j) b r o → ∃ o2, (∀ Q, ae_wp (d + 3) mX9_leastBehind 5 [some (.ref (x + 11)), some (.int (dcr b)), some (.ref q), some (.int (locv o)), some (.int (nI r)), l5] [] G Q = Q (some (.int (locv o2))) G) ∧ lbI S (stv A rl p j) b 40 o2 := by
  have ht := hk.2.2.2.1
  have o1 : ∀ K, ae_gw G (x + 11) 9 1 K = K (.ref (x + 7)) := fun K => by unfold ae_gw; rw [ht]; rfl
  have oS := fun K => gw_nfl (K := K) hS
  have oJ := fun K => gw_nfl (K := K) hJ
  obtain ⟨lf, h7, h8⟩ := hk.2.2.2.2.2
  have o7 : ∀ K, ae_zw G (x + 7) K = K 3 (40, .inr (.inr (.inr (.inr lf)))) := fun K => zw_of h7
  intro m
  induction m with
  | zero =>
    intro r o l5 hr ho hi
    have e : r = 40 := by omega
    subst e
    refine ⟨o, fun Q => ?_, hi⟩
    simp (disch := first | exact ae_isR_ref _ | exact ae_isR_null | exact ae_isR_rf _ | exact ae_cat_ref _ | exact ae_cat_int _ | exact ae_cat_null | exact ae_cat_rf _ | exact ae_nz0 | exact ae_nz1 | exact ae_fz0 | exact ae_fz1 | exact cI_na (by omega) | exact cI_ix (by omega) | exact cI_nn (by omega) | exact cI_nz (by omega) | exact cI_cp (by omega) | assumption | omega) only [s_X9_leastBehind_5, s_X9_leastBehind_7, s_X9_leastBehind_8, s_X9_leastBehind_11, s_X9_leastBehind_12, s_X9_leastBehind_85, s_X9_leastBehind_86, og_0, og_1, og_2, og_3, og_4, og_5, og_6, og_7, og_8, og_9, og_10, og_11, og_12, op_6, op_8, op_9, op_10, op_11, op_12, dg_0, dg_1, dg_2, dg_3, dp_1, dp_2, dp_3, ng_b, ng_d, mz_m, ms_m, ov_2, nset_d, nset_b, uI_1, uI_2, uR_1, uR_21, uR_22, va_rf, Bool.false_eq_true, ae_Ki, ae_Kb, ae_Kj, ae_Ka, ae_Si, ae_Sb, ae_Sj, ae_Sn, List.getElem?_cons_succ, List.getElem?_cons_zero, ↓reduceIte, if_true, if_false, nI_ofNat, true_or, or_true, false_or, or_false, true_and, and_true, false_and, and_false, or_self, and_self, not_true_eq_false, not_false_eq_true, eq_self, List.length_cons, List.length_nil, Nat.reduceAdd, Nat.reduceLT, Nat.reduceSub, List.set_cons_succ, List.set_cons_zero, Option.toList, List.nil_append, List.cons_append, cI_ltT, cI_ltF, cI_leT, cI_leF, cI_eqT, cI_eqF, cI_cl, cN_leT, cN_leF, cN_ltT, cN_ltF, cN_eqT, cN_eqF, cI_add, cI_sub, cI_m1a, cI_m1b, cI_m1c, cI_m1d, cI_m1e, cI_m1f, o1, o7]
  | succ m ih =>
    intro r o l5 hr ho hi
    by_cases c : mem S r = true
    · obtain ⟨lf', a, z7, a1, oL, gS, hv⟩ := mk_stands (d := d) hk hp hw hj c (by omega)
      rw [h7] at z7
      cases z7
      by_cases c1 : stv A rl p j r < b
      · have cT := dcr_leT c1 (by omega)
        have hi2 : lbI S (stv A rl p j) b (r + 1) o := by
          cases o with
          | none =>
            intro r' h1 h2
            by_cases e : r' = r
            · subst e; exact c1
            · exact hi r' (by omega) h2
          | some z =>
            obtain ⟨⟨r0, i1, i2, i3⟩, i4, i5⟩ := hi
            refine ⟨⟨r0, by omega, i2, i3⟩, i4, fun r' h1 h2 => ?_⟩
            by_cases e : r' = r
            · subst e; exact Or.inl c1
            · exact i5 r' (by omega) h2
        obtain ⟨o2, i1, i2⟩ := ih (r + 1) o (some (.int (nI (stv A rl p j r)))) (by omega) ho hi2
        refine ⟨o2, fun Q => ?_, i2⟩
        refine Eq.trans ?_ (s_X9_leastBehind_82.trans (i1 Q))
        simp (disch := first | exact ae_isR_ref _ | exact ae_isR_null | exact ae_isR_rf _ | exact ae_cat_ref _ | exact ae_cat_int _ | exact ae_cat_null | exact ae_cat_rf _ | exact ae_nz0 | exact ae_nz1 | exact ae_fz0 | exact ae_fz1 | exact cI_na (by omega) | exact cI_ix (by omega) | exact cI_nn (by omega) | exact cI_nz (by omega) | exact cI_cp (by omega) | assumption | omega) only [s_X9_leastBehind_5, s_X9_leastBehind_7, s_X9_leastBehind_8, s_X9_leastBehind_11, s_X9_leastBehind_12, s_X9_leastBehind_15, s_X9_leastBehind_16, s_X9_leastBehind_19, s_X9_leastBehind_21, s_X9_leastBehind_22, s_X9_leastBehind_23, s_X9_leastBehind_24, s_X9_leastBehind_25, s_X9_leastBehind_26, s_X9_leastBehind_29, s_X9_leastBehind_30, s_X9_leastBehind_33, s_X9_leastBehind_35, s_X9_leastBehind_36_N, s_X9_leastBehind_36, s_X9_leastBehind_39, s_X9_leastBehind_40, s_X9_leastBehind_41, s_X9_leastBehind_44, s_X9_leastBehind_46, s_X9_leastBehind_47, s_X9_leastBehind_50, s_X9_leastBehind_51, s_X9_leastBehind_54 ht, s_X9_leastBehind_57, s_X9_leastBehind_59, s_X9_leastBehind_61, s_X9_leastBehind_62, s_X9_leastBehind_65, s_X9_leastBehind_66, s_X9_leastBehind_67, s_X9_leastBehind_70, s_X9_leastBehind_72, s_X9_leastBehind_73, s_X9_leastBehind_76, s_X9_leastBehind_78, s_X9_leastBehind_79, og_0, og_1, og_2, og_3, og_4, og_5, og_6, og_7, og_8, og_9, og_10, og_11, og_12, op_6, op_8, op_9, op_10, op_11, op_12, dg_0, dg_1, dg_2, dg_3, dp_1, dp_2, dp_3, ng_b, ng_d, mz_m, ms_m, ov_2, nset_d, nset_b, uI_1, uI_2, uR_1, uR_21, uR_22, va_rf, Bool.false_eq_true, ae_Ki, ae_Kb, ae_Kj, ae_Ka, ae_Si, ae_Sb, ae_Sj, ae_Sn, List.getElem?_cons_succ, List.getElem?_cons_zero, ↓reduceIte, if_true, if_false, nI_ofNat, true_or, or_true, false_or, or_false, true_and, and_true, false_and, and_false, or_self, and_self, not_true_eq_false, not_false_eq_true, eq_self, List.length_cons, List.length_nil, Nat.reduceAdd, Nat.reduceLT, Nat.reduceSub, List.set_cons_succ, List.set_cons_zero, Option.toList, List.nil_append, List.cons_append, cI_ltT, cI_ltF, cI_leT, cI_leF, cI_eqT, cI_eqF, cI_cl, cN_leT, cN_leF, cN_ltT, cN_ltF, cN_eqT, cN_eqF, cI_add, cI_sub, cI_m1a, cI_m1b, cI_m1c, cI_m1d, cI_m1e, cI_m1f, o1, o7, oS, oJ, mem_T c, cL_eq, i64_10, a1, oL, gS, cT]
      · have cF := dcr_leF (Nat.le_of_not_lt c1) (by omega)
        cases o with
        | none =>
          obtain ⟨o2, i1, i2⟩ := ih (r + 1) (some (stv A rl p j r)) (some (.int (nI (stv A rl p j r)))) (by omega) (fun z hz => by cases hz; exact hv) ⟨⟨r, by omega, c, rfl⟩, by omega, fun r' h1 h2 => by
            by_cases e : r' = r
            · subst e; omega
            · exact Or.inl (hi r' (by omega) h2)⟩
          refine ⟨o2, fun Q => ?_, i2⟩
          refine Eq.trans ?_ (s_X9_leastBehind_82.trans (i1 Q))
          simp (disch := first | exact ae_isR_ref _ | exact ae_isR_null | exact ae_isR_rf _ | exact ae_cat_ref _ | exact ae_cat_int _ | exact ae_cat_null | exact ae_cat_rf _ | exact ae_nz0 | exact ae_nz1 | exact ae_fz0 | exact ae_fz1 | exact cI_na (by omega) | exact cI_ix (by omega) | exact cI_nn (by omega) | exact cI_nz (by omega) | exact cI_cp (by omega) | assumption | omega) only [s_X9_leastBehind_5, s_X9_leastBehind_7, s_X9_leastBehind_8, s_X9_leastBehind_11, s_X9_leastBehind_12, s_X9_leastBehind_15, s_X9_leastBehind_16, s_X9_leastBehind_19, s_X9_leastBehind_21, s_X9_leastBehind_22, s_X9_leastBehind_23, s_X9_leastBehind_24, s_X9_leastBehind_25, s_X9_leastBehind_26, s_X9_leastBehind_29, s_X9_leastBehind_30, s_X9_leastBehind_33, s_X9_leastBehind_35, s_X9_leastBehind_36_N, s_X9_leastBehind_36, s_X9_leastBehind_39, s_X9_leastBehind_40, s_X9_leastBehind_41, s_X9_leastBehind_44, s_X9_leastBehind_46, s_X9_leastBehind_47, s_X9_leastBehind_50, s_X9_leastBehind_51, s_X9_leastBehind_54 ht, s_X9_leastBehind_57, s_X9_leastBehind_59, s_X9_leastBehind_61, s_X9_leastBehind_62, s_X9_leastBehind_65, s_X9_leastBehind_66, s_X9_leastBehind_67, s_X9_leastBehind_70, s_X9_leastBehind_72, s_X9_leastBehind_73, s_X9_leastBehind_76, s_X9_leastBehind_78, s_X9_leastBehind_79, og_0, og_1, og_2, og_3, og_4, og_5, og_6, og_7, og_8, og_9, og_10, og_11, og_12, op_6, op_8, op_9, op_10, op_11, op_12, dg_0, dg_1, dg_2, dg_3, dp_1, dp_2, dp_3, ng_b, ng_d, mz_m, ms_m, ov_2, nset_d, nset_b, uI_1, uI_2, uR_1, uR_21, uR_22, va_rf, Bool.false_eq_true, ae_Ki, ae_Kb, ae_Kj, ae_Ka, ae_Si, ae_Sb, ae_Sj, ae_Sn, List.getElem?_cons_succ, List.getElem?_cons_zero, ↓reduceIte, if_true, if_false, nI_ofNat, true_or, or_true, false_or, or_false, true_and, and_true, false_and, and_false, or_self, and_self, not_true_eq_false, not_false_eq_true, eq_self, List.length_cons, List.length_nil, Nat.reduceAdd, Nat.reduceLT, Nat.reduceSub, List.set_cons_succ, List.set_cons_zero, Option.toList, List.nil_append, List.cons_append, cI_ltT, cI_ltF, cI_leT, cI_leF, cI_eqT, cI_eqF, cI_cl, cN_leT, cN_leF, cN_ltT, cN_ltF, cN_eqT, cN_eqF, cI_add, cI_sub, cI_m1a, cI_m1b, cI_m1c, cI_m1d, cI_m1e, cI_m1f, o1, o7, oS, oJ, mem_T c, cL_eq, i64_10, a1, oL, gS, cF, locv]
        | some z =>
          have hz := ho z rfl
          obtain ⟨⟨r0, i1, i2, i3⟩, i4, i5⟩ := hi
          by_cases c2 : stv A rl p j r < z
          · obtain ⟨o2, k1, k2⟩ := ih (r + 1) (some (stv A rl p j r)) (some (.int (nI (stv A rl p j r)))) (by omega) (fun z hz => by cases hz; exact hv) ⟨⟨r, by omega, c, rfl⟩, by omega, fun r' h1 h2 => by
              by_cases e : r' = r
              · subst e; omega
              · have := i5 r' (by omega) h2
                omega⟩
            refine ⟨o2, fun Q => ?_, k2⟩
            refine Eq.trans ?_ (s_X9_leastBehind_82.trans (k1 Q))
            simp (disch := first | exact ae_isR_ref _ | exact ae_isR_null | exact ae_isR_rf _ | exact ae_cat_ref _ | exact ae_cat_int _ | exact ae_cat_null | exact ae_cat_rf _ | exact ae_nz0 | exact ae_nz1 | exact ae_fz0 | exact ae_fz1 | exact cI_na (by omega) | exact cI_ix (by omega) | exact cI_nn (by omega) | exact cI_nz (by omega) | exact cI_cp (by omega) | assumption | omega) only [s_X9_leastBehind_5, s_X9_leastBehind_7, s_X9_leastBehind_8, s_X9_leastBehind_11, s_X9_leastBehind_12, s_X9_leastBehind_15, s_X9_leastBehind_16, s_X9_leastBehind_19, s_X9_leastBehind_21, s_X9_leastBehind_22, s_X9_leastBehind_23, s_X9_leastBehind_24, s_X9_leastBehind_25, s_X9_leastBehind_26, s_X9_leastBehind_29, s_X9_leastBehind_30, s_X9_leastBehind_33, s_X9_leastBehind_35, s_X9_leastBehind_36_N, s_X9_leastBehind_36, s_X9_leastBehind_39, s_X9_leastBehind_40, s_X9_leastBehind_41, s_X9_leastBehind_44, s_X9_leastBehind_46, s_X9_leastBehind_47, s_X9_leastBehind_50, s_X9_leastBehind_51, s_X9_leastBehind_54 ht, s_X9_leastBehind_57, s_X9_leastBehind_59, s_X9_leastBehind_61, s_X9_leastBehind_62, s_X9_leastBehind_65, s_X9_leastBehind_66, s_X9_leastBehind_67, s_X9_leastBehind_70, s_X9_leastBehind_72, s_X9_leastBehind_73, s_X9_leastBehind_76, s_X9_leastBehind_78, s_X9_leastBehind_79, og_0, og_1, og_2, og_3, og_4, og_5, og_6, og_7, og_8, og_9, og_10, og_11, og_12, op_6, op_8, op_9, op_10, op_11, op_12, dg_0, dg_1, dg_2, dg_3, dp_1, dp_2, dp_3, ng_b, ng_d, mz_m, ms_m, ov_2, nset_d, nset_b, uI_1, uI_2, uR_1, uR_21, uR_22, va_rf, Bool.false_eq_true, ae_Ki, ae_Kb, ae_Kj, ae_Ka, ae_Si, ae_Sb, ae_Sj, ae_Sn, List.getElem?_cons_succ, List.getElem?_cons_zero, ↓reduceIte, if_true, if_false, nI_ofNat, true_or, or_true, false_or, or_false, true_and, and_true, false_and, and_false, or_self, and_self, not_true_eq_false, not_false_eq_true, eq_self, List.length_cons, List.length_nil, Nat.reduceAdd, Nat.reduceLT, Nat.reduceSub, List.set_cons_succ, List.set_cons_zero, Option.toList, List.nil_append, List.cons_append, cI_ltT, cI_ltF, cI_leT, cI_leF, cI_eqT, cI_eqF, cI_cl, cN_leT, cN_leF, cN_ltT, cN_ltF, cN_eqT, cN_eqF, cI_add, cI_sub, cI_m1a, cI_m1b, cI_m1c, cI_m1d, cI_m1e, cI_m1f, o1, o7, oS, oJ, mem_T c, cL_eq, i64_10, a1, oL, gS, cF, locv]
          · obtain ⟨o2, k1, k2⟩ := ih (r + 1) (some z) (some (.int (nI (stv A rl p j r)))) (by omega) ho ⟨⟨r0, by omega, i2, i3⟩, i4, fun r' h1 h2 => by
              by_cases e : r' = r
              · subst e; omega
              · exact i5 r' (by omega) h2⟩
            refine ⟨o2, fun Q => ?_, k2⟩
            refine Eq.trans ?_ (s_X9_leastBehind_82.trans (k1 Q))
            simp (disch := first | exact ae_isR_ref _ | exact ae_isR_null | exact ae_isR_rf _ | exact ae_cat_ref _ | exact ae_cat_int _ | exact ae_cat_null | exact ae_cat_rf _ | exact ae_nz0 | exact ae_nz1 | exact ae_fz0 | exact ae_fz1 | exact cI_na (by omega) | exact cI_ix (by omega) | exact cI_nn (by omega) | exact cI_nz (by omega) | exact cI_cp (by omega) | assumption | omega) only [s_X9_leastBehind_5, s_X9_leastBehind_7, s_X9_leastBehind_8, s_X9_leastBehind_11, s_X9_leastBehind_12, s_X9_leastBehind_15, s_X9_leastBehind_16, s_X9_leastBehind_19, s_X9_leastBehind_21, s_X9_leastBehind_22, s_X9_leastBehind_23, s_X9_leastBehind_24, s_X9_leastBehind_25, s_X9_leastBehind_26, s_X9_leastBehind_29, s_X9_leastBehind_30, s_X9_leastBehind_33, s_X9_leastBehind_35, s_X9_leastBehind_36_N, s_X9_leastBehind_36, s_X9_leastBehind_39, s_X9_leastBehind_40, s_X9_leastBehind_41, s_X9_leastBehind_44, s_X9_leastBehind_46, s_X9_leastBehind_47, s_X9_leastBehind_50, s_X9_leastBehind_51, s_X9_leastBehind_54 ht, s_X9_leastBehind_57, s_X9_leastBehind_59, s_X9_leastBehind_61, s_X9_leastBehind_62, s_X9_leastBehind_65, s_X9_leastBehind_66, s_X9_leastBehind_67, s_X9_leastBehind_70, s_X9_leastBehind_72, s_X9_leastBehind_73, s_X9_leastBehind_76, s_X9_leastBehind_78, s_X9_leastBehind_79, og_0, og_1, og_2, og_3, og_4, og_5, og_6, og_7, og_8, og_9, og_10, og_11, og_12, op_6, op_8, op_9, op_10, op_11, op_12, dg_0, dg_1, dg_2, dg_3, dp_1, dp_2, dp_3, ng_b, ng_d, mz_m, ms_m, ov_2, nset_d, nset_b, uI_1, uI_2, uR_1, uR_21, uR_22, va_rf, Bool.false_eq_true, ae_Ki, ae_Kb, ae_Kj, ae_Ka, ae_Si, ae_Sb, ae_Sj, ae_Sn, List.getElem?_cons_succ, List.getElem?_cons_zero, ↓reduceIte, if_true, if_false, nI_ofNat, true_or, or_true, false_or, or_false, true_and, and_true, false_and, and_false, or_self, and_self, not_true_eq_false, not_false_eq_true, eq_self, List.length_cons, List.length_nil, Nat.reduceAdd, Nat.reduceLT, Nat.reduceSub, List.set_cons_succ, List.set_cons_zero, Option.toList, List.nil_append, List.cons_append, cI_ltT, cI_ltF, cI_leT, cI_leF, cI_eqT, cI_eqF, cI_cl, cN_leT, cN_leF, cN_ltT, cN_ltF, cN_eqT, cN_eqF, cI_add, cI_sub, cI_m1a, cI_m1b, cI_m1c, cI_m1d, cI_m1e, cI_m1f, o1, o7, oS, oJ, mem_T c, cL_eq, i64_10, a1, oL, gS, cF, locv]
    · have c' : mem S r = false := by simpa using c
      have hi2 : lbI S (stv A rl p j) b (r + 1) o := by
        cases o with
        | none =>
          intro r' h1 h2
          by_cases e : r' = r
          · subst e; exact absurd h2 c
          · exact hi r' (by omega) h2
        | some z =>
          obtain ⟨⟨r0, i1, i2, i3⟩, i4, i5⟩ := hi
          refine ⟨⟨r0, by omega, i2, i3⟩, i4, fun r' h1 h2 => ?_⟩
          by_cases e : r' = r
          · subst e; exact absurd h2 c
          · exact i5 r' (by omega) h2
      obtain ⟨o2, i1, i2⟩ := ih (r + 1) o l5 (by omega) ho hi2
      refine ⟨o2, fun Q => ?_, i2⟩
      refine Eq.trans ?_ (s_X9_leastBehind_82.trans (i1 Q))
      simp (disch := first | exact ae_isR_ref _ | exact ae_isR_null | exact ae_isR_rf _ | exact ae_cat_ref _ | exact ae_cat_int _ | exact ae_cat_null | exact ae_cat_rf _ | exact ae_nz0 | exact ae_nz1 | exact ae_fz0 | exact ae_fz1 | exact cI_na (by omega) | exact cI_ix (by omega) | exact cI_nn (by omega) | exact cI_nz (by omega) | exact cI_cp (by omega) | assumption | omega) only [s_X9_leastBehind_5, s_X9_leastBehind_7, s_X9_leastBehind_8, s_X9_leastBehind_11, s_X9_leastBehind_12, s_X9_leastBehind_15, s_X9_leastBehind_16, s_X9_leastBehind_19, s_X9_leastBehind_21, s_X9_leastBehind_22, s_X9_leastBehind_23, s_X9_leastBehind_24, s_X9_leastBehind_25, s_X9_leastBehind_26, s_X9_leastBehind_29, s_X9_leastBehind_30, s_X9_leastBehind_33, s_X9_leastBehind_35, s_X9_leastBehind_36_N, s_X9_leastBehind_36, s_X9_leastBehind_39, s_X9_leastBehind_40, s_X9_leastBehind_41, s_X9_leastBehind_44, s_X9_leastBehind_46, s_X9_leastBehind_47, s_X9_leastBehind_50, s_X9_leastBehind_51, s_X9_leastBehind_54 ht, s_X9_leastBehind_57, s_X9_leastBehind_59, s_X9_leastBehind_61, s_X9_leastBehind_62, s_X9_leastBehind_65, s_X9_leastBehind_66, s_X9_leastBehind_67, s_X9_leastBehind_70, s_X9_leastBehind_72, s_X9_leastBehind_73, s_X9_leastBehind_76, s_X9_leastBehind_78, s_X9_leastBehind_79, og_0, og_1, og_2, og_3, og_4, og_5, og_6, og_7, og_8, og_9, og_10, og_11, og_12, op_6, op_8, op_9, op_10, op_11, op_12, dg_0, dg_1, dg_2, dg_3, dp_1, dp_2, dp_3, ng_b, ng_d, mz_m, ms_m, ov_2, nset_d, nset_b, uI_1, uI_2, uR_1, uR_21, uR_22, va_rf, Bool.false_eq_true, ae_Ki, ae_Kb, ae_Kj, ae_Ka, ae_Si, ae_Sb, ae_Sj, ae_Sn, List.getElem?_cons_succ, List.getElem?_cons_zero, ↓reduceIte, if_true, if_false, nI_ofNat, true_or, or_true, false_or, or_false, true_and, and_true, false_and, and_false, or_self, and_self, not_true_eq_false, not_false_eq_true, eq_self, List.length_cons, List.length_nil, Nat.reduceAdd, Nat.reduceLT, Nat.reduceSub, List.set_cons_succ, List.set_cons_zero, Option.toList, List.nil_append, List.cons_append, cI_ltT, cI_ltF, cI_leT, cI_leF, cI_eqT, cI_eqF, cI_cl, cN_leT, cN_leF, cN_ltT, cN_ltF, cN_eqT, cN_eqF, cI_add, cI_sub, cI_m1a, cI_m1b, cI_m1c, cI_m1d, cI_m1e, cI_m1f, o1, o7, oS, oJ, mem_F c', cL_eq, i64_10]
theorem m_X9_leastBehind (hk : mkr E G x ns A ar fn rl) (hp : pat G x (pcm p)) (hw : wfp ns A rl p S) {k b q : Nat} (hbr : bro A rl p S = some k) (hb : b < 1000) (hS : nfl G q 7 = some (.long S)) (hJ : nfl G q 8 = some (.int (nI (jof p k)))) : ae_wm (d + 3) mX9_leastBehind [.ref (x + 11), .int (dcr b), .ref q] G Q = Q (some (.int (locv (nxc A rl ns p k S b)))) G := by
  have hns := hk.2.1.1
  have h99 : A 99 = 0 := hk.2.1.2.2 99 (by omega)
  obtain ⟨h1, h2, h3, h4, h5⟩ := bro_at (ns := ns) hbr
  obtain ⟨o2, i1, i2⟩ := m_X9_lb_loop (d := d) hk hp hw h3 hb hS hJ 40 0 none none (by omega) (fun c z => by cases z) (fun r' h => by omega)
  rw [lbI_nxc h99 hns hk.2.2.2.2.1 hw hbr i2] at i1
  have i1 := i1 Q
  have e1 : locv none = -1 := rfl
  rw [e1] at i1
  simp (disch := first | exact ae_isR_ref _ | exact ae_isR_null | exact ae_isR_rf _ | exact ae_cat_ref _ | exact ae_cat_int _ | exact ae_cat_null | exact ae_cat_rf _ | exact ae_nz0 | exact ae_nz1 | exact ae_fz0 | exact ae_fz1 | exact cI_na (by omega) | exact cI_ix (by omega) | exact cI_nn (by omega) | exact cI_nz (by omega) | exact cI_cp (by omega) | assumption | omega) only [s_X9_leastBehind_0, s_X9_leastBehind_1, s_X9_leastBehind_2, s_X9_leastBehind_3, e_X9_leastBehind, i1]
theorem m_X9_rw_loop (hk : mkr E G x ns A ar fn rl) (hp : pat G x (pcm p)) (hw : wfp ns A rl p S) {j c q : Nat} (hj : j < p.length) (hc : c < 1000) (hS : nfl G q 7 = some (.long S)) (hJ : nfl G q 8 = some (.int (nI j))) : ∀ (m r : Nat) (T : Int64) (l6 : Option Value), r + m = 40 → ae_wp (d + 3) mX9_rulesWith 5 [some (.ref (x + 11)), some (.int (nI c)), some (.ref q), some (.long T), none, some (.int (nI r)), l6] [] G Q = Q (some (.long (orF (fun r => mem S r && decide (stv A rl p j r = c)) m r T))) G := by
  have ht := hk.2.2.2.1
  have o1 : ∀ K, ae_gw G (x + 11) 9 1 K = K (.ref (x + 7)) := fun K => by unfold ae_gw; rw [ht]; rfl
  have oS := fun K => gw_nfl (K := K) hS
  have oJ := fun K => gw_nfl (K := K) hJ
  obtain ⟨lf, h7, h8⟩ := hk.2.2.2.2.2
  have o7 : ∀ K, ae_zw G (x + 7) K = K 3 (40, .inr (.inr (.inr (.inr lf)))) := fun K => zw_of h7
  intro m
  induction m with
  | zero =>
    intro r T l6 hr
    have e : r = 40 := by omega
    subst e
    simp (disch := first | exact ae_isR_ref _ | exact ae_isR_null | exact ae_isR_rf _ | exact ae_cat_ref _ | exact ae_cat_int _ | exact ae_cat_null | exact ae_cat_rf _ | exact ae_nz0 | exact ae_nz1 | exact ae_fz0 | exact ae_fz1 | exact cI_na (by omega) | exact cI_ix (by omega) | exact cI_nn (by omega) | exact cI_nz (by omega) | exact cI_cp (by omega) | assumption | omega) only [s_X9_rulesWith_5, s_X9_rulesWith_7, s_X9_rulesWith_8, s_X9_rulesWith_11, s_X9_rulesWith_12, s_X9_rulesWith_86, s_X9_rulesWith_87, og_0, og_1, og_2, og_3, og_4, og_5, og_6, og_7, og_8, og_9, og_10, og_11, og_12, op_6, op_8, op_9, op_10, op_11, op_12, dg_0, dg_1, dg_2, dg_3, dp_1, dp_2, dp_3, ng_b, ng_d, mz_m, ms_m, ov_2, nset_d, nset_b, uI_1, uI_2, uR_1, uR_21, uR_22, va_rf, Bool.false_eq_true, ae_Ki, ae_Kb, ae_Kj, ae_Ka, ae_Si, ae_Sb, ae_Sj, ae_Sn, List.getElem?_cons_succ, List.getElem?_cons_zero, ↓reduceIte, if_true, if_false, nI_ofNat, true_or, or_true, false_or, or_false, true_and, and_true, false_and, and_false, or_self, and_self, not_true_eq_false, not_false_eq_true, eq_self, List.length_cons, List.length_nil, Nat.reduceAdd, Nat.reduceLT, Nat.reduceSub, List.set_cons_succ, List.set_cons_zero, Option.toList, List.nil_append, List.cons_append, cI_ltT, cI_ltF, cI_leT, cI_leF, cI_eqT, cI_eqF, cI_cl, cN_leT, cN_leF, cN_ltT, cN_ltF, cN_eqT, cN_eqF, cI_add, cI_sub, cI_m1a, cI_m1b, cI_m1c, cI_m1d, cI_m1e, cI_m1f, o1, o7, orF]
  | succ m ih =>
    intro r T l6 hr
    rw [orF]
    by_cases cm : mem S r = true
    · obtain ⟨lf', a, z7, a1, oL, gS, hv⟩ := mk_stands (d := d) hk hp hw hj cm (by omega)
      rw [h7] at z7
      cases z7
      by_cases c1 : stv A rl p j r = c
      · rw [if_pos (by rw [cm, decide_eq_true c1]; rfl)]
        refine Eq.trans ?_ (s_X9_rulesWith_83.trans (ih (r + 1) (T ||| msk r) (some (.int (nI 1))) (by omega)))
        simp (disch := first | exact ae_isR_ref _ | exact ae_isR_null | exact ae_isR_rf _ | exact ae_cat_ref _ | exact ae_cat_int _ | exact ae_cat_null | exact ae_cat_rf _ | exact ae_nz0 | exact ae_nz1 | exact ae_fz0 | exact ae_fz1 | exact cI_na (by omega) | exact cI_ix (by omega) | exact cI_nn (by omega) | exact cI_nz (by omega) | exact cI_cp (by omega) | assumption | omega) only [s_X9_rulesWith_5, s_X9_rulesWith_7, s_X9_rulesWith_8, s_X9_rulesWith_11, s_X9_rulesWith_12, s_X9_rulesWith_15, s_X9_rulesWith_16, s_X9_rulesWith_19, s_X9_rulesWith_21, s_X9_rulesWith_22, s_X9_rulesWith_23, s_X9_rulesWith_24, s_X9_rulesWith_25, s_X9_rulesWith_26, s_X9_rulesWith_29, s_X9_rulesWith_30, s_X9_rulesWith_33, s_X9_rulesWith_35, s_X9_rulesWith_36_N, s_X9_rulesWith_36, s_X9_rulesWith_39, s_X9_rulesWith_40, s_X9_rulesWith_43, s_X9_rulesWith_44, s_X9_rulesWith_46, s_X9_rulesWith_48, s_X9_rulesWith_51, s_X9_rulesWith_52, s_X9_rulesWith_53, s_X9_rulesWith_56, s_X9_rulesWith_58, s_X9_rulesWith_59, s_X9_rulesWith_62, s_X9_rulesWith_63, s_X9_rulesWith_66 ht, s_X9_rulesWith_69, s_X9_rulesWith_70, s_X9_rulesWith_73, s_X9_rulesWith_74, s_X9_rulesWith_75, s_X9_rulesWith_77, s_X9_rulesWith_78, s_X9_rulesWith_79, s_X9_rulesWith_80, og_0, og_1, og_2, og_3, og_4, og_5, og_6, og_7, og_8, og_9, og_10, og_11, og_12, op_6, op_8, op_9, op_10, op_11, op_12, dg_0, dg_1, dg_2, dg_3, dp_1, dp_2, dp_3, ng_b, ng_d, mz_m, ms_m, ov_2, nset_d, nset_b, uI_1, uI_2, uR_1, uR_21, uR_22, va_rf, Bool.false_eq_true, ae_Ki, ae_Kb, ae_Kj, ae_Ka, ae_Si, ae_Sb, ae_Sj, ae_Sn, List.getElem?_cons_succ, List.getElem?_cons_zero, ↓reduceIte, if_true, if_false, nI_ofNat, true_or, or_true, false_or, or_false, true_and, and_true, false_and, and_false, or_self, and_self, not_true_eq_false, not_false_eq_true, eq_self, List.length_cons, List.length_nil, Nat.reduceAdd, Nat.reduceLT, Nat.reduceSub, List.set_cons_succ, List.set_cons_zero, Option.toList, List.nil_append, List.cons_append, cI_ltT, cI_ltF, cI_leT, cI_leF, cI_eqT, cI_eqF, cI_cl, cN_leT, cN_leF, cN_ltT, cN_ltF, cN_eqT, cN_eqF, cI_add, cI_sub, cI_m1a, cI_m1b, cI_m1c, cI_m1d, cI_m1e, cI_m1f, o1, o7, oS, oJ, mem_T cm, cL_eq, i64_10, a1, oL, gS, msk]
      · rw [if_neg (by rw [cm, decide_eq_false c1]; decide)]
        refine Eq.trans ?_ (s_X9_rulesWith_83.trans (ih (r + 1) T (some (.int (nI 1))) (by omega)))
        simp (disch := first | exact ae_isR_ref _ | exact ae_isR_null | exact ae_isR_rf _ | exact ae_cat_ref _ | exact ae_cat_int _ | exact ae_cat_null | exact ae_cat_rf _ | exact ae_nz0 | exact ae_nz1 | exact ae_fz0 | exact ae_fz1 | exact cI_na (by omega) | exact cI_ix (by omega) | exact cI_nn (by omega) | exact cI_nz (by omega) | exact cI_cp (by omega) | assumption | omega) only [s_X9_rulesWith_5, s_X9_rulesWith_7, s_X9_rulesWith_8, s_X9_rulesWith_11, s_X9_rulesWith_12, s_X9_rulesWith_15, s_X9_rulesWith_16, s_X9_rulesWith_19, s_X9_rulesWith_21, s_X9_rulesWith_22, s_X9_rulesWith_23, s_X9_rulesWith_24, s_X9_rulesWith_25, s_X9_rulesWith_26, s_X9_rulesWith_29, s_X9_rulesWith_30, s_X9_rulesWith_33, s_X9_rulesWith_35, s_X9_rulesWith_36_N, s_X9_rulesWith_36, s_X9_rulesWith_39, s_X9_rulesWith_40, s_X9_rulesWith_43, s_X9_rulesWith_44, s_X9_rulesWith_46, s_X9_rulesWith_48, s_X9_rulesWith_51, s_X9_rulesWith_52, s_X9_rulesWith_53, s_X9_rulesWith_56, s_X9_rulesWith_58, s_X9_rulesWith_59, s_X9_rulesWith_62, s_X9_rulesWith_63, s_X9_rulesWith_66 ht, s_X9_rulesWith_69, s_X9_rulesWith_70, s_X9_rulesWith_73, s_X9_rulesWith_74, s_X9_rulesWith_75, s_X9_rulesWith_77, s_X9_rulesWith_78, s_X9_rulesWith_79, s_X9_rulesWith_80, og_0, og_1, og_2, og_3, og_4, og_5, og_6, og_7, og_8, og_9, og_10, og_11, og_12, op_6, op_8, op_9, op_10, op_11, op_12, dg_0, dg_1, dg_2, dg_3, dp_1, dp_2, dp_3, ng_b, ng_d, mz_m, ms_m, ov_2, nset_d, nset_b, uI_1, uI_2, uR_1, uR_21, uR_22, va_rf, Bool.false_eq_true, ae_Ki, ae_Kb, ae_Kj, ae_Ka, ae_Si, ae_Sb, ae_Sj, ae_Sn, List.getElem?_cons_succ, List.getElem?_cons_zero, ↓reduceIte, if_true, if_false, nI_ofNat, true_or, or_true, false_or, or_false, true_and, and_true, false_and, and_false, or_self, and_self, not_true_eq_false, not_false_eq_true, eq_self, List.length_cons, List.length_nil, Nat.reduceAdd, Nat.reduceLT, Nat.reduceSub, List.set_cons_succ, List.set_cons_zero, Option.toList, List.nil_append, List.cons_append, cI_ltT, cI_ltF, cI_leT, cI_leF, cI_eqT, cI_eqF, cI_cl, cN_leT, cN_leF, cN_ltT, cN_ltF, cN_eqT, cN_eqF, cI_add, cI_sub, cI_m1a, cI_m1b, cI_m1c, cI_m1d, cI_m1e, cI_m1f, o1, o7, oS, oJ, mem_T cm, cL_eq, i64_10, a1, oL, gS]
    · have c' : mem S r = false := by simpa using cm
      rw [if_neg (by rw [c', Bool.false_and]; decide)]
      refine Eq.trans ?_ (s_X9_rulesWith_83.trans (ih (r + 1) T (some (.int (nI 0))) (by omega)))
      simp (disch := first | exact ae_isR_ref _ | exact ae_isR_null | exact ae_isR_rf _ | exact ae_cat_ref _ | exact ae_cat_int _ | exact ae_cat_null | exact ae_cat_rf _ | exact ae_nz0 | exact ae_nz1 | exact ae_fz0 | exact ae_fz1 | exact cI_na (by omega) | exact cI_ix (by omega) | exact cI_nn (by omega) | exact cI_nz (by omega) | exact cI_cp (by omega) | assumption | omega) only [s_X9_rulesWith_5, s_X9_rulesWith_7, s_X9_rulesWith_8, s_X9_rulesWith_11, s_X9_rulesWith_12, s_X9_rulesWith_15, s_X9_rulesWith_16, s_X9_rulesWith_19, s_X9_rulesWith_21, s_X9_rulesWith_22, s_X9_rulesWith_23, s_X9_rulesWith_24, s_X9_rulesWith_25, s_X9_rulesWith_26, s_X9_rulesWith_29, s_X9_rulesWith_30, s_X9_rulesWith_33, s_X9_rulesWith_35, s_X9_rulesWith_36_N, s_X9_rulesWith_36, s_X9_rulesWith_39, s_X9_rulesWith_40, s_X9_rulesWith_43, s_X9_rulesWith_44, s_X9_rulesWith_46, s_X9_rulesWith_48, s_X9_rulesWith_51, s_X9_rulesWith_52, s_X9_rulesWith_53, s_X9_rulesWith_56, s_X9_rulesWith_58, s_X9_rulesWith_59, s_X9_rulesWith_62, s_X9_rulesWith_63, s_X9_rulesWith_66 ht, s_X9_rulesWith_69, s_X9_rulesWith_70, s_X9_rulesWith_73, s_X9_rulesWith_74, s_X9_rulesWith_75, s_X9_rulesWith_77, s_X9_rulesWith_78, s_X9_rulesWith_79, s_X9_rulesWith_80, og_0, og_1, og_2, og_3, og_4, og_5, og_6, og_7, og_8, og_9, og_10, og_11, og_12, op_6, op_8, op_9, op_10, op_11, op_12, dg_0, dg_1, dg_2, dg_3, dp_1, dp_2, dp_3, ng_b, ng_d, mz_m, ms_m, ov_2, nset_d, nset_b, uI_1, uI_2, uR_1, uR_21, uR_22, va_rf, Bool.false_eq_true, ae_Ki, ae_Kb, ae_Kj, ae_Ka, ae_Si, ae_Sb, ae_Sj, ae_Sn, List.getElem?_cons_succ, List.getElem?_cons_zero, ↓reduceIte, if_true, if_false, nI_ofNat, true_or, or_true, false_or, or_false, true_and, and_true, false_and, and_false, or_self, and_self, not_true_eq_false, not_false_eq_true, eq_self, List.length_cons, List.length_nil, Nat.reduceAdd, Nat.reduceLT, Nat.reduceSub, List.set_cons_succ, List.set_cons_zero, Option.toList, List.nil_append, List.cons_append, cI_ltT, cI_ltF, cI_leT, cI_leF, cI_eqT, cI_eqF, cI_cl, cN_leT, cN_leF, cN_ltT, cN_ltF, cN_eqT, cN_eqF, cI_add, cI_sub, cI_m1a, cI_m1b, cI_m1c, cI_m1d, cI_m1e, cI_m1f, o1, o7, oS, oJ, mem_F c', cL_eq, i64_10]
theorem m_X9_rulesWith (hk : mkr E G x ns A ar fn rl) (hp : pat G x (pcm p)) (hw : wfp ns A rl p S) {k c q : Nat} (hbr : bro A rl p S = some k) (hc : c < 1000) (hS : nfl G q 7 = some (.long S)) (hJ : nfl G q 8 = some (.int (nI (jof p k)))) : ae_wm (d + 3) mX9_rulesWith [.ref (x + 11), .int (nI c), .ref q] G Q = Q (some (.long (wia A rl p k S c))) G := by
  have hns := hk.2.1.1
  have h99 : A 99 = 0 := hk.2.1.2.2 99 (by omega)
  have hg := hk.2.2.2.2.1
  have hl := hg.1
  obtain ⟨h1, h2, h3, h4, h5⟩ := bro_at (ns := ns) hbr
  have e : orF (fun r => mem S r && decide (stv A rl p (jof p k) r = c)) 40 0 0 = wia A rl p k S c := by
    apply mem_ext
    intro r hr
    rw [mem_orF _ _ _ _ (by omega) hr, mem_zero hr, Bool.false_or, mem_wia hl hr]
    cases em : mem S r with
    | false => simp
    | true =>
      have hrl := hw.2.2.2.2.1 r hr em
      rw [stv_vat h99 hns hg hw h2 hrl em, decide_eq_true hrl, decide_eq_true (by omega)]
  have g := m_X9_rw_loop (d := d) (Q := Q) hk hp hw h3 hc hS hJ 40 0 0 none (by omega)
  rw [e] at g
  simp (disch := first | exact ae_isR_ref _ | exact ae_isR_null | exact ae_isR_rf _ | exact ae_cat_ref _ | exact ae_cat_int _ | exact ae_cat_null | exact ae_cat_rf _ | exact ae_nz0 | exact ae_nz1 | exact ae_fz0 | exact ae_fz1 | exact cI_na (by omega) | exact cI_ix (by omega) | exact cI_nn (by omega) | exact cI_nz (by omega) | exact cI_cp (by omega) | assumption | omega) only [s_X9_rulesWith_0, s_X9_rulesWith_1, s_X9_rulesWith_2, s_X9_rulesWith_3, e_X9_rulesWith, g]
end LBH
