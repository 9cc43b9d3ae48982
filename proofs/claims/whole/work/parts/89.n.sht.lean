/-! NarrowSolver$TreeMaker: shutVariables, firstBranch, leastBehind, rulesWith -/
def lft (rl : mR) (r : Nat) : List Nat := (rat rl r).1.take (rat rl r).2
theorem mtc_cut {A : Nat → Nat} {l r : List Nat} (h99 : A 99 = 0) : ∀ (p : List Nat) (i n : Nat), rn A p n = some 0 → i ≤ l.length → rn A (l.drop i) n = some 0 → mtc A (l ++ r) p i → mtc A l p i := by
  intro p
  induction p with
  | nil => intro i n _ hi _ _; exact hi
  | cons x p ih =>
    intro i n hp hi hl hm
    obtain ⟨h1, h2⟩ := rn_pos hp
    have hil : i < l.length := by
      rcases Nat.lt_or_ge i l.length with z | z
      · exact z
      · rw [List.drop_eq_nil_of_le z] at hl
        simp only [rn, Option.some.injEq] at hl
        omega
    obtain ⟨m, rfl⟩ : ∃ m, n = m + 1 := ⟨n - 1, by omega⟩
    obtain ⟨t1, t2, t3, t4, t5⟩ := rn_te hl
    obtain ⟨a1, a2, a3⟩ := te_args hl
    obtain ⟨m1, m2⟩ := hm
    refine ⟨hil, ?_⟩
    by_cases c : x = 99
    · rw [if_pos c] at m2 ⊢
      rw [te_app t3] at m2
      rw [c, h99, show m + 1 + 0 - 1 = m by omega] at h2
      exact ih _ m h2 t2 t5 m2
    · rw [if_neg c] at m2 ⊢
      have e : (l ++ r).getD i 0 = l.getD i 0 := by simp [List.getD_eq_getElem?_getD, List.getElem?_append_left hil]
      rw [e] at m2
      refine ⟨m2.1, ih _ (m + A x) (by rw [show m + A x = m + 1 + A x - 1 by omega]; exact h2) (by omega) ?_ m2.2⟩
      rw [m2.1] at a3
      rw [Nat.add_comm m]
      exact a3
theorem lft_rn {ns : Nat} {A : Nat → Nat} {rl : mR} (hns : ns ≤ 24) (hg : rgo ns A rl) {r : Nat} (hr : r < rl.length) : rn A (lft rl r) 1 = some 0 ∧ (rat rl r).1 = lft rl r ++ (rat rl r).1.drop (rat rl r).2 ∧ (lft rl r).length = (rat rl r).2 ∧ (rat rl r).2 ≤ 120 ∧ sml (lft rl r) := by
  obtain ⟨h1, h2, h3, h4⟩ := hg.2 r hr
  obtain ⟨t1, t2, t3, t4, t5⟩ := rn_te (i := 0) (m := 1) (by simpa using h3)
  rw [← h4] at t1 t2 t4
  have e : sl (rat rl r).1 0 (rat rl r).2 = lft rl r := by unfold sl lft; rw [List.drop_zero, Nat.sub_zero]
  rw [e] at t4
  have e2 : (lft rl r).length = (rat rl r).2 := by unfold lft; rw [List.length_take]; omega
  refine ⟨t4, (List.take_append_drop _ _).symm, e2, by omega, fun i hi => ?_⟩
  have e3 : (lft rl r).getD i 0 = (rat rl r).1.getD i 0 := by
    unfold lft at hi ⊢
    simp only [List.getD_eq_getElem?_getD]
    rw [List.getElem?_take_of_lt (by rw [List.length_take] at hi; omega)]
  rw [e3]
  have h5 := h2 i (by omega)
  omega
/-- what rule r's left side has where the pattern has its number j -/
def stv (A : Nat → Nat) (rl : mR) (p : List Nat) (j r : Nat) : Nat := (lft rl r).getD (wlk A (lft rl r) (p.take j) 0) 0
theorem lft_mtc {ns : Nat} {A : Nat → Nat} {rl : mR} {p : List Nat} (h99 : A 99 = 0) (hns : ns ≤ 24) (hg : rgo ns A rl) (hp : rn A p 1 = some 0) {r : Nat} (hr : r < rl.length) (hm : mtc A (rat rl r).1 p 0) : mtc A (lft rl r) p 0 ∧ ∀ j, j < p.length → (rat rl r).1.getD (wlk A (rat rl r).1 (p.take j) 0) 0 = stv A rl p j r := by
  obtain ⟨h1, h2, h3, h4, h5⟩ := lft_rn hns hg hr
  have hm2 : mtc A (lft rl r) p 0 := mtc_cut (r := (rat rl r).1.drop (rat rl r).2) h99 p 0 1 hp (Nat.zero_le _) (by simpa using h1) (by rw [← h2]; exact hm)
  refine ⟨hm2, fun j hj => ?_⟩
  have h6 := (wlk_app (a := (rat rl r).1.drop (rat rl r).2) (rn_acm h1) (p.take j) 0 (mtc_take hm2)).2
  rw [← h2] at h6
  rw [h6]
  have h7 := (mtc_at hm2 hj).1
  unfold stv
  have e : ∀ (a b : List Nat) (i : Nat), i < a.length → (a ++ b).getD i 0 = a.getD i 0 := fun a b i hi => by simp [List.getD_eq_getElem?_getD, List.getElem?_append_left hi]
  have e2 := e (lft rl r) ((rat rl r).1.drop (rat rl r).2) _ h7
  rw [← h2] at e2
  exact e2
def lsk (E : Nat → Prop) (G : ah_H) (x : Nat) (rl : mR) : Prop := ∃ lf, G.1 (x + 7) = some (.inl (3, 40, .inr (.inr (.inr (.inr lf))))) ∧ ∀ r, r < rl.length → ∃ a, lf r = some a ∧ rul E G a (lft rl r) ((rat rl r).1.drop (rat rl r).2)
/-- all that the maker reads: E has it, and nothing that the maker writes -/
def mkr (E : Nat → Prop) (G : ah_H) (x ns : Nat) (A : Nat → Nat) (ar fn : Nat → Int32) (rl : mR) : Prop := (E (x + 1) ∧ E (x + 2) ∧ E (x + 3) ∧ E (x + 7) ∧ E (x + 11) ∧ ¬ E (x + 12) ∧ ¬ E (x + 13) ∧ ¬ E (x + 14)) ∧ arl A ns ar ∧ sym G (x + 1) ns ar fn ∧ tmk G x ∧ rgo ns A rl ∧ lsk E G x rl
theorem mkr_cg {E : Nat → Prop} {G G2 : ah_H} {x ns : Nat} {A : Nat → Nat} {ar fn : Nat → Int32} {rl : mR} (hE : ∀ a, E a → G2.1 a = G.1 a) (h : mkr E G x ns A ar fn rl) : mkr E G2 x ns A ar fn rl := by
  obtain ⟨h0, h1, h2, h3, h4, lf, h5, h6⟩ := h
  have h7 := h0
  obtain ⟨e1, e2, e3, e7, e11, _, _, _⟩ := h7
  refine ⟨h0, h1, ⟨by rw [hE _ e1]; exact h2.1, by rw [hE _ e2]; exact h2.2.1, by rw [hE _ e3]; exact h2.2.2⟩, by unfold tmk; rw [hE _ e11]; exact h3, h4, lf, by rw [hE _ e7]; exact h5, fun r hr => ?_⟩
  obtain ⟨a, a1, a2⟩ := h6 r hr
  exact ⟨a, a1, rul_cg hE a2⟩
def shs (G : ah_H) (x : Nat) (f : Nat → Int32) : ah_H := ah_set G (x + 14) (.inl (1, 120, .inl f))
theorem shs_z {G : ah_H} {x : Nat} {f : Nat → Int32} {K : Nat → vp_A → Prop} : ae_zw (shs G x f) (x + 14) K = K 1 (120, .inl f) := zw_of (hs_eq rfl)
theorem shs_s {G : ah_H} {x : Nat} {f g : Nat → Int32} : ah_set (shs G x f) (x + 14) (.inl (1, 120, .inl g)) = shs G x g := hs_hs _ _ _ _
theorem shs_ne {G : ah_H} {x a : Nat} {f : Nat → Int32} (h : a ≠ x + 14) : (shs G x f).1 a = G.1 a := hs_ne h
theorem shs_mkr {E : Nat → Prop} {G : ah_H} {x ns : Nat} {A : Nat → Nat} {ar fn : Nat → Int32} {rl : mR} (h : mkr E G x ns A ar fn rl) (f : Nat → Int32) : mkr E (shs G x f) x ns A ar fn rl := mkr_cg (fun a ha => shs_ne (fun e => h.1.2.2.2.2.2.2.2 (e ▸ ha))) h
theorem shs_pat {G : ah_H} {x : Nat} {l : List Nat} (h : pat G x l) (f : Nat → Int32) : pat (shs G x f) x l := by
  obtain ⟨g, p1, p2, p3⟩ := h
  exact ⟨g, ⟨by rw [shs_ne (by omega)]; exact p1.1, by rw [shs_ne (by omega)]; exact p1.2⟩, p2, p3⟩
def shl (sh : Nat → Bool) (f : Nat → Int32) : Prop := ∀ i, i < 120 → f i = if sh i = true then nI 1 else nI 0
theorem shl_ext {sh sh2 : Nat → Bool} {f : Nat → Int32} (h : ∀ i, i < 120 → sh i = sh2 i) (hf : shl sh f) : shl sh2 f := fun i hi => by rw [← h i hi]; exact hf i hi
theorem shl_up {sh : Nat → Bool} {f : Nat → Int32} {i : Nat} (hf : shl sh f) : shl (fun j => sh j || decide (j = i)) (upd f i (nI 1)) := by
  intro j hj
  by_cases c : j = i
  · subst c
    simp [upd]
  · simp [upd, c, hf j hj]
def vvr (A : Nat → Nat) (p l : List Nat) (j : Nat) : Bool := decide (p.getD j 0 = 99) && decide (100 ≤ l.getD (wlk A l (p.take j) 0) 0)
section SHT
variable {d : Nat} {Q : Option Value → ah_H → Prop} {E : Nat → Prop} {G : ah_H} {x : Nat} {A : Nat → Nat} {ns : Nat} {ar fn : Nat → Int32} {p : List Nat} {rl : mR}
theorem m_X9_sv_loop (hk : mkr E G x ns A ar fn rl) (hp : pat G x (pcm p)) (hpe : ∀ i, i < p.length → p.getD i 0 < ns ∨ p.getD i 0 = 99) {ra : Nat} {l : List Nat} {gl : Nat → Int32} (hL : ∀ f, nmb (shs G x f) (ra + 1) l.length gl l.length) (hl1 : rowl l gl) (hl2 : l.length ≤ 120) (hsm : sml l) (hm : mtc A l p 0) : ∀ (m i : Nat) (f : Nat → Int32) (sh : Nat → Bool), i + m = p.length → shl sh f → ∃ f2, (∀ Q, ae_wp (d + 2) mX9_shutVariables 4 [some (.ref (x + 11)), some (.ref (ra + 1)), some (.int (nI (wlk A l (p.take i) 0))), some (.int (nI i))] [] (shs G x f) Q = Q none (shs G x f2)) ∧ shl (fun j => sh j || (decide (i ≤ j ∧ j < p.length) && vvr A p l j)) f2 := by
  have hns := hk.2.1.1
  have hA := hk.2.1
  have hpl : p.length ≤ 120 := by
    obtain ⟨g, p1, p2, p3⟩ := hp
    rw [pcm_len] at p3
    exact p3
  intro m
  induction m with
  | zero =>
    intro i f sh hi hf
    obtain ⟨g, p1, p2, p3⟩ := shs_pat hp f
    have ht := (shs_mkr hk f).2.2.2.1
    have o2 : ∀ K, ae_gw (shs G x f) (x + 11) 9 2 K = K (.ref (x + 12)) := fun K => by unfold ae_gw; rw [ht]; rfl
    have o3 : ∀ K, ae_gw (shs G x f) (x + 12) 1 1 K = K (.int (nI p.length)) := fun K => by unfold ae_gw; rw [p1.1, pcm_len]; rfl
    refine ⟨f, fun Q => ?_, shl_ext (fun j hj => ?_) hf⟩
    · simp (disch := first | exact ae_isR_ref _ | exact ae_isR_null | exact ae_isR_rf _ | exact ae_cat_ref _ | exact ae_cat_int _ | exact ae_cat_null | exact ae_cat_rf _ | exact ae_nz0 | exact ae_nz1 | exact ae_fz0 | exact ae_fz1 | exact cI_na (by omega) | exact cI_ix (by omega) | exact cI_nn (by omega) | exact cI_nz (by omega) | exact cI_cp (by omega) | assumption | omega) only [s_X9_shutVariables_4, s_X9_shutVariables_5, s_X9_shutVariables_6, s_X9_shutVariables_9, s_X9_shutVariables_12, s_X9_shutVariables_78, og_0, og_1, og_2, og_3, og_4, og_5, og_6, og_7, og_8, og_9, og_10, og_11, og_12, op_6, op_8, op_9, op_10, op_11, op_12, dg_0, dg_1, dg_2, dg_3, dp_1, dp_2, dp_3, ng_b, ng_d, mz_m, ms_m, ov_2, nset_d, nset_b, uI_1, uI_2, uR_1, uR_21, uR_22, va_rf, Bool.false_eq_true, ae_Ki, ae_Kb, ae_Kj, ae_Ka, ae_Si, ae_Sb, ae_Sj, ae_Sn, List.getElem?_cons_succ, List.getElem?_cons_zero, ↓reduceIte, if_true, if_false, nI_ofNat, true_or, or_true, false_or, or_false, true_and, and_true, false_and, and_false, or_self, and_self, not_true_eq_false, not_false_eq_true, eq_self, List.length_cons, List.length_nil, Nat.reduceAdd, Nat.reduceLT, Nat.reduceSub, List.set_cons_succ, List.set_cons_zero, Option.toList, List.nil_append, List.cons_append, cI_ltT, cI_ltF, cI_leT, cI_leF, cI_eqT, cI_eqF, cI_cl, cN_leT, cN_leF, cN_ltT, cN_ltF, cN_eqT, cN_eqF, cI_add, cI_sub, cI_m1a, cI_m1b, cI_m1c, cI_m1d, cI_m1e, cI_m1f, o2, o3]
    · rw [decide_eq_false (by omega), Bool.false_and, Bool.or_false]
  | succ m ih =>
    intro i f sh hi hf
    have hil : i < p.length := by omega
    have h1 := (mtc_at hm hil).1
    have hpi := hpe i hil
    obtain ⟨g, p1, p2, p3⟩ := shs_pat hp f
    have hs := (shs_mkr hk f).2.2.1
    have ht := (shs_mkr hk f).2.2.2.1
    have o0 : ∀ K, ae_gw (shs G x f) (x + 11) 9 0 K = K (.ref (x + 1)) := fun K => by unfold ae_gw; rw [ht]; rfl
    have o2 : ∀ K, ae_gw (shs G x f) (x + 11) 9 2 K = K (.ref (x + 12)) := fun K => by unfold ae_gw; rw [ht]; rfl
    have o4 : ∀ K, ae_gw (shs G x f) (x + 11) 9 3 K = K (.ref (x + 14)) := fun K => by unfold ae_gw; rw [ht]; rfl
    have o3 : ∀ K, ae_gw (shs G x f) (x + 12) 1 1 K = K (.int (nI p.length)) := fun K => by unfold ae_gw; rw [p1.1, pcm_len]; rfl
    have gA := fun Q => m_X1_at_l (d := d + 1) (Q := Q) (i := i) p1 (by omega) p2 (by rw [pcm_len]; exact hil) p3
    rw [pcm_at hil] at gA
    have hws := wlk_succ (A := A) (l := l) (i := 0) hil
    by_cases c : p.getD i 0 = 99
    · rw [if_pos c] at hws gA
      have gV := fun Q => m_X10_isVariable (d := d + 1) (Q := Q) (h := shs G x f) (v := 100) (by omega)
      rw [if_pos (by decide)] at gV
      have hsl := hsm _ h1
      have gB := fun Q => m_X1_at_l (d := d + 1) (Q := Q) (i := wlk A l (p.take i) 0) (hL f) (by omega) hl1 h1 (Nat.le_refl _)
      have gW := fun Q => m_X10_isVariable (d := d + 1) (Q := Q) (h := shs G x f) (v := l.getD (wlk A l (p.take i) 0) 0) (by omega)
      by_cases c2 : 100 ≤ l.getD (wlk A l (p.take i) 0) 0
      · rw [if_pos c2] at gW
        obtain ⟨f2, i1, i2⟩ := ih (i + 1) (upd f i (nI 1)) _ (by omega) (shl_up (i := i) hf)
        have hs2 := (shs_mkr hk (upd f i (nI 1))).2.2.1
        have ht2 := (shs_mkr hk (upd f i (nI 1))).2.2.2.1
        have o0' : ∀ K, ae_gw (shs G x (upd f i (nI 1))) (x + 11) 9 0 K = K (.ref (x + 1)) := fun K => by unfold ae_gw; rw [ht2]; rfl
        have gE := fun Q => m_X7_endOfTerm (d := d) (Q := Q) (i := wlk A l (p.take i) 0) hs2 hA (hL (upd f i (nI 1))) (by omega) (Nat.le_refl _) hl1 hsm (by omega)
        refine ⟨f2, fun Q => ?_, shl_ext (fun j hj => ?_) i2⟩
        · have i1 := i1 Q
          rw [hws] at i1
          refine Eq.trans ?_ (s_X9_shutVariables_75.trans i1)
          simp (disch := first | exact ae_isR_ref _ | exact ae_isR_null | exact ae_isR_rf _ | exact ae_cat_ref _ | exact ae_cat_int _ | exact ae_cat_null | exact ae_cat_rf _ | exact ae_nz0 | exact ae_nz1 | exact ae_fz0 | exact ae_fz1 | exact cI_na (by omega) | exact cI_ix (by omega) | exact cI_nn (by omega) | exact cI_nz (by omega) | exact cI_cp (by omega) | assumption | omega) only [s_X9_shutVariables_4, s_X9_shutVariables_5, s_X9_shutVariables_6, s_X9_shutVariables_9, s_X9_shutVariables_12, s_X9_shutVariables_15, s_X9_shutVariables_16, s_X9_shutVariables_17, s_X9_shutVariables_20, s_X9_shutVariables_21, s_X9_shutVariables_24, s_X9_shutVariables_25, s_X9_shutVariables_28, s_X9_shutVariables_29 p1.1, s_X9_shutVariables_32, s_X9_shutVariables_35, s_X9_shutVariables_38, s_X9_shutVariables_39, s_X9_shutVariables_40 (hL f).1, s_X9_shutVariables_43, s_X9_shutVariables_46, s_X9_shutVariables_49, s_X9_shutVariables_50, s_X9_shutVariables_53, s_X9_shutVariables_54, s_X9_shutVariables_55, s_X9_shutVariables_56, s_X9_shutVariables_57, s_X9_shutVariables_60, s_X9_shutVariables_61, s_X9_shutVariables_62 hs2.1, s_X9_shutVariables_65, s_X9_shutVariables_66, s_X9_shutVariables_69, s_X9_shutVariables_72, og_0, og_1, og_2, og_3, og_4, og_5, og_6, og_7, og_8, og_9, og_10, og_11, og_12, op_6, op_8, op_9, op_10, op_11, op_12, dg_0, dg_1, dg_2, dg_3, dp_1, dp_2, dp_3, ng_b, ng_d, mz_m, ms_m, ov_2, nset_d, nset_b, uI_1, uI_2, uR_1, uR_21, uR_22, va_rf, Bool.false_eq_true, ae_Ki, ae_Kb, ae_Kj, ae_Ka, ae_Si, ae_Sb, ae_Sj, ae_Sn, List.getElem?_cons_succ, List.getElem?_cons_zero, ↓reduceIte, if_true, if_false, nI_ofNat, true_or, or_true, false_or, or_false, true_and, and_true, false_and, and_false, or_self, and_self, not_true_eq_false, not_false_eq_true, eq_self, List.length_cons, List.length_nil, Nat.reduceAdd, Nat.reduceLT, Nat.reduceSub, List.set_cons_succ, List.set_cons_zero, Option.toList, List.nil_append, List.cons_append, cI_ltT, cI_ltF, cI_leT, cI_leF, cI_eqT, cI_eqF, cI_cl, cN_leT, cN_leF, cN_ltT, cN_ltF, cN_eqT, cN_eqF, cI_add, cI_sub, cI_m1a, cI_m1b, cI_m1c, cI_m1d, cI_m1e, cI_m1f, o0, o2, o3, o4, gA, gV, gB, gW, shs_z, shs_s, ae_vn1, o0', gE]
        · by_cases e : j = i
          · subst e
            have v1 : vvr A p l j = true := by unfold vvr; rw [decide_eq_true c, decide_eq_true c2]; rfl
            rw [v1, decide_eq_true (show j ≤ j ∧ j < p.length by omega)]
            simp only [decide_true, Bool.or_true, Bool.true_or, Bool.and_true]
          · rw [decide_eq_false e, Bool.or_false, decide_eq_decide.mpr (show (i + 1 ≤ j ∧ j < p.length) ↔ (i ≤ j ∧ j < p.length) by omega)]
      · rw [if_neg c2] at gW
        obtain ⟨f2, i1, i2⟩ := ih (i + 1) f sh (by omega) hf
        have gE := fun Q => m_X7_endOfTerm (d := d) (Q := Q) (i := wlk A l (p.take i) 0) hs hA (hL f) (by omega) (Nat.le_refl _) hl1 hsm (by omega)
        refine ⟨f2, fun Q => ?_, shl_ext (fun j hj => ?_) i2⟩
        · have i1 := i1 Q
          rw [hws] at i1
          refine Eq.trans ?_ (s_X9_shutVariables_75.trans i1)
          simp (disch := first | exact ae_isR_ref _ | exact ae_isR_null | exact ae_isR_rf _ | exact ae_cat_ref _ | exact ae_cat_int _ | exact ae_cat_null | exact ae_cat_rf _ | exact ae_nz0 | exact ae_nz1 | exact ae_fz0 | exact ae_fz1 | exact cI_na (by omega) | exact cI_ix (by omega) | exact cI_nn (by omega) | exact cI_nz (by omega) | exact cI_cp (by omega) | assumption | omega) only [s_X9_shutVariables_4, s_X9_shutVariables_5, s_X9_shutVariables_6, s_X9_shutVariables_9, s_X9_shutVariables_12, s_X9_shutVariables_15, s_X9_shutVariables_16, s_X9_shutVariables_17, s_X9_shutVariables_20, s_X9_shutVariables_21, s_X9_shutVariables_24, s_X9_shutVariables_25, s_X9_shutVariables_28, s_X9_shutVariables_29 p1.1, s_X9_shutVariables_32, s_X9_shutVariables_35, s_X9_shutVariables_38, s_X9_shutVariables_39, s_X9_shutVariables_40 (hL f).1, s_X9_shutVariables_43, s_X9_shutVariables_46, s_X9_shutVariables_49, s_X9_shutVariables_50, s_X9_shutVariables_53, s_X9_shutVariables_54, s_X9_shutVariables_55, s_X9_shutVariables_56, s_X9_shutVariables_57, s_X9_shutVariables_60, s_X9_shutVariables_61, s_X9_shutVariables_62 hs.1, s_X9_shutVariables_65, s_X9_shutVariables_66, s_X9_shutVariables_69, s_X9_shutVariables_72, og_0, og_1, og_2, og_3, og_4, og_5, og_6, og_7, og_8, og_9, og_10, og_11, og_12, op_6, op_8, op_9, op_10, op_11, op_12, dg_0, dg_1, dg_2, dg_3, dp_1, dp_2, dp_3, ng_b, ng_d, mz_m, ms_m, ov_2, nset_d, nset_b, uI_1, uI_2, uR_1, uR_21, uR_22, va_rf, Bool.false_eq_true, ae_Ki, ae_Kb, ae_Kj, ae_Ka, ae_Si, ae_Sb, ae_Sj, ae_Sn, List.getElem?_cons_succ, List.getElem?_cons_zero, ↓reduceIte, if_true, if_false, nI_ofNat, true_or, or_true, false_or, or_false, true_and, and_true, false_and, and_false, or_self, and_self, not_true_eq_false, not_false_eq_true, eq_self, List.length_cons, List.length_nil, Nat.reduceAdd, Nat.reduceLT, Nat.reduceSub, List.set_cons_succ, List.set_cons_zero, Option.toList, List.nil_append, List.cons_append, cI_ltT, cI_ltF, cI_leT, cI_leF, cI_eqT, cI_eqF, cI_cl, cN_leT, cN_leF, cN_ltT, cN_ltF, cN_eqT, cN_eqF, cI_add, cI_sub, cI_m1a, cI_m1b, cI_m1c, cI_m1d, cI_m1e, cI_m1f, o0, o2, o3, o4, gA, gV, gB, gW, shs_z, gE]
        · by_cases e : j = i
          · subst e
            have v1 : vvr A p l j = false := by unfold vvr; rw [decide_eq_false c2, Bool.and_false]
            rw [v1, Bool.and_false, Bool.and_false]
          · rw [decide_eq_decide.mpr (show (i + 1 ≤ j ∧ j < p.length) ↔ (i ≤ j ∧ j < p.length) by omega)]
    · rw [if_neg c] at hws gA
      have gV := fun Q => m_X10_isVariable (d := d + 1) (Q := Q) (h := shs G x f) (v := p.getD i 0) (by omega)
      rw [if_neg (by omega)] at gV
      obtain ⟨f2, i1, i2⟩ := ih (i + 1) f sh (by omega) hf
      refine ⟨f2, fun Q => ?_, shl_ext (fun j hj => ?_) i2⟩
      · have i1 := i1 Q
        rw [hws] at i1
        refine Eq.trans ?_ (s_X9_shutVariables_75.trans i1)
        simp (disch := first | exact ae_isR_ref _ | exact ae_isR_null | exact ae_isR_rf _ | exact ae_cat_ref _ | exact ae_cat_int _ | exact ae_cat_null | exact ae_cat_rf _ | exact ae_nz0 | exact ae_nz1 | exact ae_fz0 | exact ae_fz1 | exact cI_na (by omega) | exact cI_ix (by omega) | exact cI_nn (by omega) | exact cI_nz (by omega) | exact cI_cp (by omega) | assumption | omega) only [s_X9_shutVariables_4, s_X9_shutVariables_5, s_X9_shutVariables_6, s_X9_shutVariables_9, s_X9_shutVariables_12, s_X9_shutVariables_15, s_X9_shutVariables_16, s_X9_shutVariables_17, s_X9_shutVariables_20, s_X9_shutVariables_21, s_X9_shutVariables_24, s_X9_shutVariables_25, s_X9_shutVariables_28, s_X9_shutVariables_29 p1.1, s_X9_shutVariables_32, s_X9_shutVariables_35, s_X9_shutVariables_38, s_X9_shutVariables_39, s_X9_shutVariables_40, s_X9_shutVariables_43, s_X9_shutVariables_46, s_X9_shutVariables_49, s_X9_shutVariables_50, s_X9_shutVariables_53, s_X9_shutVariables_54, s_X9_shutVariables_55, s_X9_shutVariables_56, s_X9_shutVariables_57, s_X9_shutVariables_60, s_X9_shutVariables_61, s_X9_shutVariables_62, s_X9_shutVariables_65, s_X9_shutVariables_66, s_X9_shutVariables_69, s_X9_shutVariables_72, og_0, og_1, og_2, og_3, og_4, og_5, og_6, og_7, og_8, og_9, og_10, og_11, og_12, op_6, op_8, op_9, op_10, op_11, op_12, dg_0, dg_1, dg_2, dg_3, dp_1, dp_2, dp_3, ng_b, ng_d, mz_m, ms_m, ov_2, nset_d, nset_b, uI_1, uI_2, uR_1, uR_21, uR_22, va_rf, Bool.false_eq_true, ae_Ki, ae_Kb, ae_Kj, ae_Ka, ae_Si, ae_Sb, ae_Sj, ae_Sn, List.getElem?_cons_succ, List.getElem?_cons_zero, ↓reduceIte, if_true, if_false, nI_ofNat, true_or, or_true, false_or, or_false, true_and, and_true, false_and, and_false, or_self, and_self, not_true_eq_false, not_false_eq_true, eq_self, List.length_cons, List.length_nil, Nat.reduceAdd, Nat.reduceLT, Nat.reduceSub, List.set_cons_succ, List.set_cons_zero, Option.toList, List.nil_append, List.cons_append, cI_ltT, cI_ltF, cI_leT, cI_leF, cI_eqT, cI_eqF, cI_cl, cN_leT, cN_leF, cN_ltT, cN_ltF, cN_eqT, cN_eqF, cI_add, cI_sub, cI_m1a, cI_m1b, cI_m1c, cI_m1d, cI_m1e, cI_m1f, o0, o2, o3, o4, gA, gV, shs_z]
      · by_cases e : j = i
        · subst e
          have v1 : vvr A p l j = false := by unfold vvr; rw [decide_eq_false c, Bool.false_and]
          rw [v1, Bool.and_false, Bool.and_false]
        · rw [decide_eq_decide.mpr (show (i + 1 ≤ j ∧ j < p.length) ↔ (i ≤ j ∧ j < p.length) by omega)]
theorem m_X9_shutVariables (hk : mkr E G x ns A ar fn rl) (hp : pat G x (pcm p)) (hpe : ∀ i, i < p.length → p.getD i 0 < ns ∨ p.getD i 0 = 99) {ra : Nat} {l : List Nat} {gl : Nat → Int32} (hL : ∀ f, nmb (shs G x f) (ra + 1) l.length gl l.length) (hl1 : rowl l gl) (hl2 : l.length ≤ 120) (hsm : sml l) (hm : mtc A l p 0) {f : Nat → Int32} {sh : Nat → Bool} (hf : shl sh f) : ∃ f2, (∀ Q, ae_wm (d + 2) mX9_shutVariables [.ref (x + 11), .ref (ra + 1)] (shs G x f) Q = Q none (shs G x f2)) ∧ shl (fun j => sh j || vvr A p l j) f2 := by
  obtain ⟨f2, i1, i2⟩ := m_X9_sv_loop (d := d) hk hp hpe hL hl1 hl2 hsm hm p.length 0 f sh (by omega) hf
  refine ⟨f2, fun Q => ?_, shl_ext (fun j hj => ?_) i2⟩
  · have g := i1 Q
    have e : wlk A l (p.take 0) 0 = 0 := rfl
    rw [e] at g
    simp (disch := first | exact ae_isR_ref _ | exact ae_isR_null | exact ae_isR_rf _ | exact ae_cat_ref _ | exact ae_cat_int _ | exact ae_cat_null | exact ae_cat_rf _ | exact ae_nz0 | exact ae_nz1 | exact ae_fz0 | exact ae_fz1 | exact cI_na (by omega) | exact cI_ix (by omega) | exact cI_nn (by omega) | exact cI_nz (by omega) | exact cI_cp (by omega) | assumption | omega) only [s_X9_shutVariables_0, s_X9_shutVariables_1, s_X9_shutVariables_2, s_X9_shutVariables_3, e_X9_shutVariables, g]
  · by_cases c : j < p.length
    · rw [decide_eq_true (by omega), Bool.true_and]
    · have : p.getD j 0 = 0 := by simp [List.getD_eq_getElem?_getD, List.getElem?_eq_none (Nat.le_of_not_lt c)]
      unfold vvr
      rw [this]
      simp
end SHT
